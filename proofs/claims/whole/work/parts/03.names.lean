/-! names of the system: classes, fields, methods, code, links; by program out of the task (wip/gen) -/
abbrev El : Type := Nat × Nat × Bool × Instr × Nat × Nat × Nat × List Nat
def ow_F0 : u_T := fun k => match k with
  | 0 => ("OwnedClouds$Book", "orders", "LOwnedClouds$Table;", true)
  | 1 => ("OwnedClouds$Book", "bids", "LOwnedClouds$Table;", true)
  | _ => ("OwnedClouds$Book", "gauges", "LOwnedClouds$Table;", true)
def ow_F1 : u_T := fun k => match k with
  | 0 => ("OwnedClouds$Day", "sky", "LOwnedClouds$Sky;", true)
  | 1 => ("OwnedClouds$Day", "book", "LOwnedClouds$Book;", true)
  | 2 => ("OwnedClouds$Day", "ground", "LOwnedClouds$Ground;", true)
  | 3 => ("OwnedClouds$Day", "cells", "LOwnedClouds$Row;", true)
  | 4 => ("OwnedClouds$Day", "parts", "LOwnedClouds$Table;", true)
  | 5 => ("OwnedClouds$Day", "owners", "LOwnedClouds$Row;", true)
  | 6 => ("OwnedClouds$Day", "minutes", "LOwnedClouds$Row;", true)
  | 7 => ("OwnedClouds$Day", "ordered", "LOwnedClouds$Row;", true)
  | 8 => ("OwnedClouds$Day", "seed", "I", false)
  | 9 => ("OwnedClouds$Day", "gone", "I", false)
  | _ => ("OwnedClouds$Day", "joins", "I", false)
def ow_F2 : u_T := fun k => match k with
  | 0 => ("OwnedClouds$Ground", "sky", "LOwnedClouds$Sky;", true)
  | 1 => ("OwnedClouds$Ground", "rain", "LOwnedClouds$Table;", true)
  | 2 => ("OwnedClouds$Ground", "kept", "LOwnedClouds$Table;", true)
  | 3 => ("OwnedClouds$Ground", "accounts", "LOwnedClouds$Table;", true)
  | 4 => ("OwnedClouds$Ground", "farmers", "LOwnedClouds$Table;", true)
  | 5 => ("OwnedClouds$Ground", "fields", "LOwnedClouds$Table;", true)
  | 6 => ("OwnedClouds$Ground", "taken", "I", false)
  | 7 => ("OwnedClouds$Ground", "flood", "I", false)
  | 8 => ("OwnedClouds$Ground", "waste", "I", false)
  | _ => ("OwnedClouds$Ground", "hails", "I", false)
def ow_F3 : u_T := fun k => match k with
  | 0 => ("OwnedClouds$Guess", "sky", "LOwnedClouds$Sky;", true)
  | 1 => ("OwnedClouds$Guess", "book", "LOwnedClouds$Book;", true)
  | 2 => ("OwnedClouds$Guess", "open", "LOwnedClouds$Row;", true)
  | 3 => ("OwnedClouds$Guess", "allOpen", "I", false)
  | 4 => ("OwnedClouds$Guess", "ways", "I", false)
  | _ => ("OwnedClouds$Guess", "sure", "I", false)
def ow_F4 : u_T := fun k => match k with
  | 0 => ("OwnedClouds$Market", "sky", "LOwnedClouds$Sky;", true)
  | 1 => ("OwnedClouds$Market", "book", "LOwnedClouds$Book;", true)
  | 2 => ("OwnedClouds$Market", "done", "LOwnedClouds$Row;", true)
  | 3 => ("OwnedClouds$Market", "served", "LOwnedClouds$Row;", true)
  | 4 => ("OwnedClouds$Market", "rations", "LOwnedClouds$Row;", true)
  | _ => ("OwnedClouds$Market", "price", "I", false)
def ow_F5 : u_T := fun k => match k with
  | _ => ("OwnedClouds$Row", "numbers", "[I", true)
def ow_F6 : u_T := fun k => match k with
  | 0 => ("OwnedClouds$Sky", "facts", "LOwnedClouds$Row;", true)
  | 1 => ("OwnedClouds$Sky", "winds", "LOwnedClouds$Table;", true)
  | 2 => ("OwnedClouds$Sky", "clouds", "LOwnedClouds$Table;", true)
  | 3 => ("OwnedClouds$Sky", "fields", "LOwnedClouds$Table;", true)
  | 4 => ("OwnedClouds$Sky", "glaciers", "LOwnedClouds$Table;", true)
  | _ => ("OwnedClouds$Sky", "trails", "LOwnedClouds$Table;", true)
def ow_F7 : u_T := fun k => match k with
  | 0 => ("OwnedClouds$SkyReader", "tape", "LOwnedClouds$Row;", true)
  | 1 => ("OwnedClouds$SkyReader", "draft", "LOwnedClouds$Sky;", true)
  | 2 => ("OwnedClouds$SkyReader", "length", "I", false)
  | 3 => ("OwnedClouds$SkyReader", "at", "I", false)
  | 4 => ("OwnedClouds$SkyReader", "fault", "I", false)
  | 5 => ("OwnedClouds$SkyReader", "place", "I", false)
  | _ => ("OwnedClouds$SkyReader", "numberPlace", "I", false)
def ow_F8 : u_T := fun k => match k with
  | 0 => ("OwnedClouds$Table", "most", "I", true)
  | 1 => ("OwnedClouds$Table", "width", "I", true)
  | 2 => ("OwnedClouds$Table", "numbers", "[I", true)
  | _ => ("OwnedClouds$Table", "size", "I", false)
def ow_F9 : u_T := fun k => match k with
  | 0 => ("OwnedClouds$Worth", "sky", "LOwnedClouds$Sky;", true)
  | 1 => ("OwnedClouds$Worth", "room", "LOwnedClouds$Table;", true)
  | 2 => ("OwnedClouds$Worth", "flow", "LOwnedClouds$Table;", true)
  | 3 => ("OwnedClouds$Worth", "left", "LOwnedClouds$Row;", true)
  | 4 => ("OwnedClouds$Worth", "done", "LOwnedClouds$Row;", true)
  | 5 => ("OwnedClouds$Worth", "cloudFor", "LOwnedClouds$Row;", true)
  | 6 => ("OwnedClouds$Worth", "fieldBy", "LOwnedClouds$Row;", true)
  | 7 => ("OwnedClouds$Worth", "queue", "LOwnedClouds$Row;", true)
  | 8 => ("OwnedClouds$Worth", "worths", "LOwnedClouds$Row;", true)
  | 9 => ("OwnedClouds$Worth", "above", "J", false)
  | _ => ("OwnedClouds$Worth", "below", "J", false)
def ow_F10 : u_T := fun k => match k with
  | 0 => ("OwnedClouds", "tape", "LOwnedClouds$Row;", true)
  | 1 => ("OwnedClouds", "tapeBytes", "I", false)
  | 2 => ("OwnedClouds", "sky", "LOwnedClouds$Sky;", true)
  | 3 => ("OwnedClouds", "reader", "LOwnedClouds$SkyReader;", true)
  | 4 => ("OwnedClouds", "faultPlace", "I", false)
  | 5 => ("OwnedClouds", "book", "LOwnedClouds$Book;", true)
  | 6 => ("OwnedClouds", "images", "[LOwnedClouds$Book;", true)
  | 7 => ("OwnedClouds", "imageCount", "I", false)
  | 8 => ("OwnedClouds", "hours", "LOwnedClouds$Day;", true)
  | 9 => ("OwnedClouds", "values", "LOwnedClouds$Worth;", true)
  | 10 => ("OwnedClouds", "market", "LOwnedClouds$Market;", true)
  | _ => ("OwnedClouds", "guess", "LOwnedClouds$Guess;", true)
def ow_F11 : u_T := fun k => match k with
  | 0 => ("OwnedCloudsModel", "thrown", "I", false)
  | 1 => ("OwnedCloudsModel", "tape", "I", false)
  | 2 => ("OwnedCloudsModel", "size", "I", false)
  | 3 => ("OwnedCloudsModel", "place", "I", false)
  | 4 => ("OwnedCloudsModel", "at", "I", false)
  | 5 => ("OwnedCloudsModel", "fault", "I", false)
  | 6 => ("OwnedCloudsModel", "faultAt", "I", false)
  | 7 => ("OwnedCloudsModel", "clauses", "I", false)
  | 8 => ("OwnedCloudsModel", "fed", "[I", true)
  | 9 => ("OwnedCloudsModel", "readTold", "[I", true)
  | 10 => ("OwnedCloudsModel", "told", "[I", true)
  | 11 => ("OwnedCloudsModel", "readWind", "[[I", true)
  | 12 => ("OwnedCloudsModel", "wind", "[[I", true)
  | 13 => ("OwnedCloudsModel", "readCloud", "[[I", true)
  | 14 => ("OwnedCloudsModel", "cloud", "[[I", true)
  | 15 => ("OwnedCloudsModel", "readField", "[[I", true)
  | 16 => ("OwnedCloudsModel", "field", "[[I", true)
  | 17 => ("OwnedCloudsModel", "readIce", "[[I", true)
  | 18 => ("OwnedCloudsModel", "ice", "[[I", true)
  | 19 => ("OwnedCloudsModel", "orders", "I", false)
  | 20 => ("OwnedCloudsModel", "bids", "I", false)
  | 21 => ("OwnedCloudsModel", "gauges", "I", false)
  | 22 => ("OwnedCloudsModel", "images", "I", false)
  | 23 => ("OwnedCloudsModel", "spot", "I", false)
  | 24 => ("OwnedCloudsModel", "order", "[[I", true)
  | 25 => ("OwnedCloudsModel", "bid", "[[I", true)
  | 26 => ("OwnedCloudsModel", "gauge", "[[I", true)
  | 27 => ("OwnedCloudsModel", "kept", "[[I", true)
  | 28 => ("OwnedCloudsModel", "isThere", "[Z", true)
  | 29 => ("OwnedCloudsModel", "x", "[I", true)
  | 30 => ("OwnedCloudsModel", "y", "[I", true)
  | 31 => ("OwnedCloudsModel", "whose", "[I", true)
  | 32 => ("OwnedCloudsModel", "minute", "[I", true)
  | 33 => ("OwnedCloudsModel", "fellNow", "[I", true)
  | 34 => ("OwnedCloudsModel", "part", "[[I", true)
  | 35 => ("OwnedCloudsModel", "heap", "[[I", true)
  | 36 => ("OwnedCloudsModel", "iceKeeps", "[[I", true)
  | 37 => ("OwnedCloudsModel", "account", "[[I", true)
  | 38 => ("OwnedCloudsModel", "thirst", "[I", true)
  | 39 => ("OwnedCloudsModel", "flooded", "[I", true)
  | 40 => ("OwnedCloudsModel", "hailed", "[I", true)
  | 41 => ("OwnedCloudsModel", "farmerPays", "[I", true)
  | 42 => ("OwnedCloudsModel", "farmerOwed", "[I", true)
  | 43 => ("OwnedCloudsModel", "gone", "I", false)
  | 44 => ("OwnedCloudsModel", "taken", "I", false)
  | 45 => ("OwnedCloudsModel", "flood", "I", false)
  | 46 => ("OwnedCloudsModel", "waste", "I", false)
  | 47 => ("OwnedCloudsModel", "joins", "I", false)
  | 48 => ("OwnedCloudsModel", "hails", "I", false)
  | 49 => ("OwnedCloudsModel", "seedNow", "I", false)
  | 50 => ("OwnedCloudsModel", "aloneX", "[I", true)
  | 51 => ("OwnedCloudsModel", "aloneY", "[I", true)
  | 52 => ("OwnedCloudsModel", "can", "[[I", true)
  | 53 => ("OwnedCloudsModel", "flows", "[[I", true)
  | 54 => ("OwnedCloudsModel", "left", "[I", true)
  | 55 => ("OwnedCloudsModel", "seenField", "[Z", true)
  | 56 => ("OwnedCloudsModel", "got", "[I", true)
  | 57 => ("OwnedCloudsModel", "passes", "[[Z", true)
  | 58 => ("OwnedCloudsModel", "lacks", "[I", true)
  | 59 => ("OwnedCloudsModel", "ways", "I", false)
  | _ => ("OwnedCloudsModel", "sure", "I", false)
def ow_on (c : Nat) : String := match c with
  | 0 => "OwnedClouds$Book"
  | 1 => "OwnedClouds$Day"
  | 2 => "OwnedClouds$Ground"
  | 3 => "OwnedClouds$Guess"
  | 4 => "OwnedClouds$Market"
  | 5 => "OwnedClouds$Row"
  | 6 => "OwnedClouds$Sky"
  | 7 => "OwnedClouds$SkyReader"
  | 8 => "OwnedClouds$Table"
  | 9 => "OwnedClouds$Worth"
  | 10 => "OwnedClouds"
  | 11 => "OwnedCloudsModel"
  | 12 => "OwnedCloudsLaw"
  | _ => "java/lang/Integer"
def ow_F (c : Nat) : u_T := match c with
  | 0 => ow_F0
  | 1 => ow_F1
  | 2 => ow_F2
  | 3 => ow_F3
  | 4 => ow_F4
  | 5 => ow_F5
  | 6 => ow_F6
  | 7 => ow_F7
  | 8 => ow_F8
  | 9 => ow_F9
  | 10 => ow_F10
  | _ => ow_F11
def ow_N (c : Nat) : Nat := match c with
  | 0 => 3
  | 1 => 11
  | 2 => 10
  | 3 => 6
  | 4 => 6
  | 5 => 1
  | 6 => 6
  | 7 => 7
  | 8 => 4
  | 9 => 11
  | 10 => 12
  | _ => 61
def ow_ty0 : Nat → FieldType := fun k => match k with
  | 0 => .object "OwnedClouds$Table"
  | 1 => .object "OwnedClouds$Table"
  | _ => .object "OwnedClouds$Table"
def ow_ty1 : Nat → FieldType := fun k => match k with
  | 0 => .object "OwnedClouds$Sky"
  | 1 => .object "OwnedClouds$Book"
  | 2 => .object "OwnedClouds$Ground"
  | 3 => .object "OwnedClouds$Row"
  | 4 => .object "OwnedClouds$Table"
  | 5 => .object "OwnedClouds$Row"
  | 6 => .object "OwnedClouds$Row"
  | 7 => .object "OwnedClouds$Row"
  | 8 => .int
  | 9 => .int
  | _ => .int
def ow_ty2 : Nat → FieldType := fun k => match k with
  | 0 => .object "OwnedClouds$Sky"
  | 1 => .object "OwnedClouds$Table"
  | 2 => .object "OwnedClouds$Table"
  | 3 => .object "OwnedClouds$Table"
  | 4 => .object "OwnedClouds$Table"
  | 5 => .object "OwnedClouds$Table"
  | 6 => .int
  | 7 => .int
  | 8 => .int
  | _ => .int
def ow_ty3 : Nat → FieldType := fun k => match k with
  | 0 => .object "OwnedClouds$Sky"
  | 1 => .object "OwnedClouds$Book"
  | 2 => .object "OwnedClouds$Row"
  | 3 => .int
  | 4 => .int
  | _ => .int
def ow_ty4 : Nat → FieldType := fun k => match k with
  | 0 => .object "OwnedClouds$Sky"
  | 1 => .object "OwnedClouds$Book"
  | 2 => .object "OwnedClouds$Row"
  | 3 => .object "OwnedClouds$Row"
  | 4 => .object "OwnedClouds$Row"
  | _ => .int
def ow_ty5 : Nat → FieldType := fun k => match k with
  | _ => .array (.int)
def ow_ty6 : Nat → FieldType := fun k => match k with
  | 0 => .object "OwnedClouds$Row"
  | 1 => .object "OwnedClouds$Table"
  | 2 => .object "OwnedClouds$Table"
  | 3 => .object "OwnedClouds$Table"
  | 4 => .object "OwnedClouds$Table"
  | _ => .object "OwnedClouds$Table"
def ow_ty7 : Nat → FieldType := fun k => match k with
  | 0 => .object "OwnedClouds$Row"
  | 1 => .object "OwnedClouds$Sky"
  | 2 => .int
  | 3 => .int
  | 4 => .int
  | 5 => .int
  | _ => .int
def ow_ty8 : Nat → FieldType := fun k => match k with
  | 0 => .int
  | 1 => .int
  | 2 => .array (.int)
  | _ => .int
def ow_ty9 : Nat → FieldType := fun k => match k with
  | 0 => .object "OwnedClouds$Sky"
  | 1 => .object "OwnedClouds$Table"
  | 2 => .object "OwnedClouds$Table"
  | 3 => .object "OwnedClouds$Row"
  | 4 => .object "OwnedClouds$Row"
  | 5 => .object "OwnedClouds$Row"
  | 6 => .object "OwnedClouds$Row"
  | 7 => .object "OwnedClouds$Row"
  | 8 => .object "OwnedClouds$Row"
  | 9 => .long
  | _ => .long
def ow_ty10 : Nat → FieldType := fun k => match k with
  | 0 => .object "OwnedClouds$Row"
  | 1 => .int
  | 2 => .object "OwnedClouds$Sky"
  | 3 => .object "OwnedClouds$SkyReader"
  | 4 => .int
  | 5 => .object "OwnedClouds$Book"
  | 6 => .array (.object "OwnedClouds$Book")
  | 7 => .int
  | 8 => .object "OwnedClouds$Day"
  | 9 => .object "OwnedClouds$Worth"
  | 10 => .object "OwnedClouds$Market"
  | _ => .object "OwnedClouds$Guess"
def ow_ty11 : Nat → FieldType := fun k => match k with
  | 0 => .int
  | 1 => .int
  | 2 => .int
  | 3 => .int
  | 4 => .int
  | 5 => .int
  | 6 => .int
  | 7 => .int
  | 8 => .array (.int)
  | 9 => .array (.int)
  | 10 => .array (.int)
  | 11 => .array (.array (.int))
  | 12 => .array (.array (.int))
  | 13 => .array (.array (.int))
  | 14 => .array (.array (.int))
  | 15 => .array (.array (.int))
  | 16 => .array (.array (.int))
  | 17 => .array (.array (.int))
  | 18 => .array (.array (.int))
  | 19 => .int
  | 20 => .int
  | 21 => .int
  | 22 => .int
  | 23 => .int
  | 24 => .array (.array (.int))
  | 25 => .array (.array (.int))
  | 26 => .array (.array (.int))
  | 27 => .array (.array (.int))
  | 28 => .array (.boolean)
  | 29 => .array (.int)
  | 30 => .array (.int)
  | 31 => .array (.int)
  | 32 => .array (.int)
  | 33 => .array (.int)
  | 34 => .array (.array (.int))
  | 35 => .array (.array (.int))
  | 36 => .array (.array (.int))
  | 37 => .array (.array (.int))
  | 38 => .array (.int)
  | 39 => .array (.int)
  | 40 => .array (.int)
  | 41 => .array (.int)
  | 42 => .array (.int)
  | 43 => .int
  | 44 => .int
  | 45 => .int
  | 46 => .int
  | 47 => .int
  | 48 => .int
  | 49 => .int
  | 50 => .array (.int)
  | 51 => .array (.int)
  | 52 => .array (.array (.int))
  | 53 => .array (.array (.int))
  | 54 => .array (.int)
  | 55 => .array (.boolean)
  | 56 => .array (.int)
  | 57 => .array (.array (.boolean))
  | 58 => .array (.int)
  | 59 => .int
  | _ => .int
def ow_ty (c : Nat) : Nat → FieldType := match c with
  | 0 => ow_ty0
  | 1 => ow_ty1
  | 2 => ow_ty2
  | 3 => ow_ty3
  | 4 => ow_ty4
  | 5 => ow_ty5
  | 6 => ow_ty6
  | 7 => ow_ty7
  | 8 => ow_ty8
  | 9 => ow_ty9
  | 10 => ow_ty10
  | _ => ow_ty11
/-- what a field is: 0 an int that changes, 1 a long, 2 a final reference, 3 a final int -/
def ow_fc0 : Nat → Nat := fun k => (cond (Nat.ble k 0) 2 (cond (Nat.ble k 1) 2 2))
def ow_fc1 : Nat → Nat := fun k => (cond (Nat.ble k 4) (cond (Nat.ble k 1) (cond (Nat.ble k 0) 2 2) (cond (Nat.ble k 2) 2 (cond (Nat.ble k 3) 2 2))) (cond (Nat.ble k 7) (cond (Nat.ble k 5) 2 (cond (Nat.ble k 6) 2 2)) (cond (Nat.ble k 8) 0 (cond (Nat.ble k 9) 0 0))))
def ow_fc2 : Nat → Nat := fun k => (cond (Nat.ble k 4) (cond (Nat.ble k 1) (cond (Nat.ble k 0) 2 2) (cond (Nat.ble k 2) 2 (cond (Nat.ble k 3) 2 2))) (cond (Nat.ble k 6) (cond (Nat.ble k 5) 2 0) (cond (Nat.ble k 7) 0 (cond (Nat.ble k 8) 0 0))))
def ow_fc3 : Nat → Nat := fun k => (cond (Nat.ble k 2) (cond (Nat.ble k 0) 2 (cond (Nat.ble k 1) 2 2)) (cond (Nat.ble k 3) 0 (cond (Nat.ble k 4) 0 0)))
def ow_fc4 : Nat → Nat := fun k => (cond (Nat.ble k 2) (cond (Nat.ble k 0) 2 (cond (Nat.ble k 1) 2 2)) (cond (Nat.ble k 3) 2 (cond (Nat.ble k 4) 2 0)))
def ow_fc5 : Nat → Nat := fun k => 2
def ow_fc6 : Nat → Nat := fun k => (cond (Nat.ble k 2) (cond (Nat.ble k 0) 2 (cond (Nat.ble k 1) 2 2)) (cond (Nat.ble k 3) 2 (cond (Nat.ble k 4) 2 2)))
def ow_fc7 : Nat → Nat := fun k => (cond (Nat.ble k 2) (cond (Nat.ble k 0) 2 (cond (Nat.ble k 1) 2 0)) (cond (Nat.ble k 4) (cond (Nat.ble k 3) 0 0) (cond (Nat.ble k 5) 0 0)))
def ow_fc8 : Nat → Nat := fun k => (cond (Nat.ble k 1) (cond (Nat.ble k 0) 3 3) (cond (Nat.ble k 2) 2 0))
def ow_fc9 : Nat → Nat := fun k => (cond (Nat.ble k 4) (cond (Nat.ble k 1) (cond (Nat.ble k 0) 2 2) (cond (Nat.ble k 2) 2 (cond (Nat.ble k 3) 2 2))) (cond (Nat.ble k 7) (cond (Nat.ble k 5) 2 (cond (Nat.ble k 6) 2 2)) (cond (Nat.ble k 8) 2 (cond (Nat.ble k 9) 1 1))))
def ow_fc10 : Nat → Nat := fun k => (cond (Nat.ble k 5) (cond (Nat.ble k 2) (cond (Nat.ble k 0) 2 (cond (Nat.ble k 1) 0 2)) (cond (Nat.ble k 3) 2 (cond (Nat.ble k 4) 0 2))) (cond (Nat.ble k 8) (cond (Nat.ble k 6) 2 (cond (Nat.ble k 7) 0 2)) (cond (Nat.ble k 9) 2 (cond (Nat.ble k 10) 2 2))))
def ow_fc11 : Nat → Nat := fun k => (cond (Nat.ble k 29) (cond (Nat.ble k 14) (cond (Nat.ble k 6) (cond (Nat.ble k 2) (cond (Nat.ble k 0) 0 (cond (Nat.ble k 1) 0 0)) (cond (Nat.ble k 4) (cond (Nat.ble k 3) 0 0) (cond (Nat.ble k 5) 0 0))) (cond (Nat.ble k 10) (cond (Nat.ble k 8) (cond (Nat.ble k 7) 0 2) (cond (Nat.ble k 9) 2 2)) (cond (Nat.ble k 12) (cond (Nat.ble k 11) 2 2) (cond (Nat.ble k 13) 2 2)))) (cond (Nat.ble k 21) (cond (Nat.ble k 17) (cond (Nat.ble k 15) 2 (cond (Nat.ble k 16) 2 2)) (cond (Nat.ble k 19) (cond (Nat.ble k 18) 2 0) (cond (Nat.ble k 20) 0 0))) (cond (Nat.ble k 25) (cond (Nat.ble k 23) (cond (Nat.ble k 22) 0 0) (cond (Nat.ble k 24) 2 2)) (cond (Nat.ble k 27) (cond (Nat.ble k 26) 2 2) (cond (Nat.ble k 28) 2 2))))) (cond (Nat.ble k 44) (cond (Nat.ble k 36) (cond (Nat.ble k 32) (cond (Nat.ble k 30) 2 (cond (Nat.ble k 31) 2 2)) (cond (Nat.ble k 34) (cond (Nat.ble k 33) 2 2) (cond (Nat.ble k 35) 2 2))) (cond (Nat.ble k 40) (cond (Nat.ble k 38) (cond (Nat.ble k 37) 2 2) (cond (Nat.ble k 39) 2 2)) (cond (Nat.ble k 42) (cond (Nat.ble k 41) 2 2) (cond (Nat.ble k 43) 0 0)))) (cond (Nat.ble k 52) (cond (Nat.ble k 48) (cond (Nat.ble k 46) (cond (Nat.ble k 45) 0 0) (cond (Nat.ble k 47) 0 0)) (cond (Nat.ble k 50) (cond (Nat.ble k 49) 0 2) (cond (Nat.ble k 51) 2 2))) (cond (Nat.ble k 56) (cond (Nat.ble k 54) (cond (Nat.ble k 53) 2 2) (cond (Nat.ble k 55) 2 2)) (cond (Nat.ble k 58) (cond (Nat.ble k 57) 2 2) (cond (Nat.ble k 59) 0 0))))))
def ow_fc (c : Nat) : Nat → Nat := match c with
  | 0 => ow_fc0
  | 1 => ow_fc1
  | 2 => ow_fc2
  | 3 => ow_fc3
  | 4 => ow_fc4
  | 5 => ow_fc5
  | 6 => ow_fc6
  | 7 => ow_fc7
  | 8 => ow_fc8
  | 9 => ow_fc9
  | 10 => ow_fc10
  | _ => ow_fc11
abbrev ow_cl : List vw_C := [(ow_on 0, ow_F 0, ow_N 0), (ow_on 1, ow_F 1, ow_N 1), (ow_on 2, ow_F 2, ow_N 2), (ow_on 3, ow_F 3, ow_N 3), (ow_on 4, ow_F 4, ow_N 4), (ow_on 5, ow_F 5, ow_N 5), (ow_on 6, ow_F 6, ow_N 6), (ow_on 7, ow_F 7, ow_N 7), (ow_on 8, ow_F 8, ow_N 8), (ow_on 9, ow_F 9, ow_N 9), (ow_on 10, ow_F 10, ow_N 10), (ow_on 11, ow_F 11, ow_N 11)]
/-- the shape of the heap: kind of each cell (0..11 an object of that class; 12 int[], 13 boolean[], 14 long[], 15 int[][], 16 boolean[][], 17 Book[]) -/
def ow_n0 : Nat := 368
def kS (a : Nat) : Nat := (cond (Nat.ble a 183) (cond (Nat.ble a 91) (cond (Nat.ble a 45) (cond (Nat.ble a 22) (cond (Nat.ble a 10) (cond (Nat.ble a 4) (cond (Nat.ble a 1) (cond (Nat.ble a 0) 10 5) (cond (Nat.ble a 2) 12 (cond (Nat.ble a 3) 6 5))) (cond (Nat.ble a 7) (cond (Nat.ble a 5) 12 (cond (Nat.ble a 6) 8 12)) (cond (Nat.ble a 8) 8 (cond (Nat.ble a 9) 12 8)))) (cond (Nat.ble a 16) (cond (Nat.ble a 13) (cond (Nat.ble a 11) 12 (cond (Nat.ble a 12) 8 12)) (cond (Nat.ble a 14) 8 (cond (Nat.ble a 15) 12 7))) (cond (Nat.ble a 19) (cond (Nat.ble a 17) 6 (cond (Nat.ble a 18) 5 12)) (cond (Nat.ble a 20) 8 (cond (Nat.ble a 21) 12 8))))) (cond (Nat.ble a 33) (cond (Nat.ble a 27) (cond (Nat.ble a 24) (cond (Nat.ble a 23) 12 8) (cond (Nat.ble a 25) 12 (cond (Nat.ble a 26) 8 12))) (cond (Nat.ble a 30) (cond (Nat.ble a 28) 8 (cond (Nat.ble a 29) 12 0)) (cond (Nat.ble a 31) 8 (cond (Nat.ble a 32) 12 8)))) (cond (Nat.ble a 39) (cond (Nat.ble a 36) (cond (Nat.ble a 34) 12 (cond (Nat.ble a 35) 8 12)) (cond (Nat.ble a 37) 17 (cond (Nat.ble a 38) 0 8))) (cond (Nat.ble a 42) (cond (Nat.ble a 40) 12 (cond (Nat.ble a 41) 8 12)) (cond (Nat.ble a 43) 8 (cond (Nat.ble a 44) 12 0)))))) (cond (Nat.ble a 68) (cond (Nat.ble a 56) (cond (Nat.ble a 50) (cond (Nat.ble a 47) (cond (Nat.ble a 46) 8 12) (cond (Nat.ble a 48) 8 (cond (Nat.ble a 49) 12 8))) (cond (Nat.ble a 53) (cond (Nat.ble a 51) 12 (cond (Nat.ble a 52) 0 8)) (cond (Nat.ble a 54) 12 (cond (Nat.ble a 55) 8 12)))) (cond (Nat.ble a 62) (cond (Nat.ble a 59) (cond (Nat.ble a 57) 8 (cond (Nat.ble a 58) 12 1)) (cond (Nat.ble a 60) 2 (cond (Nat.ble a 61) 8 12))) (cond (Nat.ble a 65) (cond (Nat.ble a 63) 8 (cond (Nat.ble a 64) 12 8)) (cond (Nat.ble a 66) 12 (cond (Nat.ble a 67) 8 12))))) (cond (Nat.ble a 79) (cond (Nat.ble a 73) (cond (Nat.ble a 70) (cond (Nat.ble a 69) 8 12) (cond (Nat.ble a 71) 5 (cond (Nat.ble a 72) 12 8))) (cond (Nat.ble a 76) (cond (Nat.ble a 74) 12 (cond (Nat.ble a 75) 5 12)) (cond (Nat.ble a 77) 5 (cond (Nat.ble a 78) 12 5)))) (cond (Nat.ble a 85) (cond (Nat.ble a 82) (cond (Nat.ble a 80) 12 (cond (Nat.ble a 81) 9 8)) (cond (Nat.ble a 83) 12 (cond (Nat.ble a 84) 8 12))) (cond (Nat.ble a 88) (cond (Nat.ble a 86) 5 (cond (Nat.ble a 87) 12 5)) (cond (Nat.ble a 89) 12 (cond (Nat.ble a 90) 5 12))))))) (cond (Nat.ble a 137) (cond (Nat.ble a 114) (cond (Nat.ble a 102) (cond (Nat.ble a 96) (cond (Nat.ble a 93) (cond (Nat.ble a 92) 5 12) (cond (Nat.ble a 94) 5 (cond (Nat.ble a 95) 12 5))) (cond (Nat.ble a 99) (cond (Nat.ble a 97) 12 (cond (Nat.ble a 98) 4 5)) (cond (Nat.ble a 100) 12 (cond (Nat.ble a 101) 5 12)))) (cond (Nat.ble a 108) (cond (Nat.ble a 105) (cond (Nat.ble a 103) 5 (cond (Nat.ble a 104) 12 3)) (cond (Nat.ble a 106) 5 (cond (Nat.ble a 107) 12 11))) (cond (Nat.ble a 111) (cond (Nat.ble a 109) 12 (cond (Nat.ble a 110) 12 12)) (cond (Nat.ble a 112) 15 (cond (Nat.ble a 113) 12 12))))) (cond (Nat.ble a 125) (cond (Nat.ble a 119) (cond (Nat.ble a 116) (cond (Nat.ble a 115) 12 12) (cond (Nat.ble a 117) 12 (cond (Nat.ble a 118) 12 12))) (cond (Nat.ble a 122) (cond (Nat.ble a 120) 12 (cond (Nat.ble a 121) 12 15)) (cond (Nat.ble a 123) 12 (cond (Nat.ble a 124) 12 12)))) (cond (Nat.ble a 131) (cond (Nat.ble a 128) (cond (Nat.ble a 126) 12 (cond (Nat.ble a 127) 12 12)) (cond (Nat.ble a 129) 12 (cond (Nat.ble a 130) 12 12))) (cond (Nat.ble a 134) (cond (Nat.ble a 132) 15 (cond (Nat.ble a 133) 12 12)) (cond (Nat.ble a 135) 12 (cond (Nat.ble a 136) 12 12)))))) (cond (Nat.ble a 160) (cond (Nat.ble a 148) (cond (Nat.ble a 142) (cond (Nat.ble a 139) (cond (Nat.ble a 138) 12 12) (cond (Nat.ble a 140) 12 (cond (Nat.ble a 141) 15 12))) (cond (Nat.ble a 145) (cond (Nat.ble a 143) 12 (cond (Nat.ble a 144) 12 12)) (cond (Nat.ble a 146) 12 (cond (Nat.ble a 147) 12 12)))) (cond (Nat.ble a 154) (cond (Nat.ble a 151) (cond (Nat.ble a 149) 12 (cond (Nat.ble a 150) 15 12)) (cond (Nat.ble a 152) 12 (cond (Nat.ble a 153) 12 12))) (cond (Nat.ble a 157) (cond (Nat.ble a 155) 12 (cond (Nat.ble a 156) 12 12)) (cond (Nat.ble a 158) 12 (cond (Nat.ble a 159) 12 12))))) (cond (Nat.ble a 171) (cond (Nat.ble a 165) (cond (Nat.ble a 162) (cond (Nat.ble a 161) 12 12) (cond (Nat.ble a 163) 15 (cond (Nat.ble a 164) 12 12))) (cond (Nat.ble a 168) (cond (Nat.ble a 166) 12 (cond (Nat.ble a 167) 12 12)) (cond (Nat.ble a 169) 12 (cond (Nat.ble a 170) 12 12)))) (cond (Nat.ble a 177) (cond (Nat.ble a 174) (cond (Nat.ble a 172) 12 (cond (Nat.ble a 173) 12 12)) (cond (Nat.ble a 175) 12 (cond (Nat.ble a 176) 15 12))) (cond (Nat.ble a 180) (cond (Nat.ble a 178) 12 (cond (Nat.ble a 179) 12 15)) (cond (Nat.ble a 181) 12 (cond (Nat.ble a 182) 12 12)))))))) (cond (Nat.ble a 275) (cond (Nat.ble a 229) (cond (Nat.ble a 206) (cond (Nat.ble a 194) (cond (Nat.ble a 188) (cond (Nat.ble a 185) (cond (Nat.ble a 184) 15 12) (cond (Nat.ble a 186) 12 (cond (Nat.ble a 187) 12 12))) (cond (Nat.ble a 191) (cond (Nat.ble a 189) 12 (cond (Nat.ble a 190) 12 12)) (cond (Nat.ble a 192) 12 (cond (Nat.ble a 193) 12 12)))) (cond (Nat.ble a 200) (cond (Nat.ble a 197) (cond (Nat.ble a 195) 12 (cond (Nat.ble a 196) 12 12)) (cond (Nat.ble a 198) 12 (cond (Nat.ble a 199) 12 12))) (cond (Nat.ble a 203) (cond (Nat.ble a 201) 12 (cond (Nat.ble a 202) 12 12)) (cond (Nat.ble a 204) 12 (cond (Nat.ble a 205) 12 12))))) (cond (Nat.ble a 217) (cond (Nat.ble a 211) (cond (Nat.ble a 208) (cond (Nat.ble a 207) 12 12) (cond (Nat.ble a 209) 12 (cond (Nat.ble a 210) 12 12))) (cond (Nat.ble a 214) (cond (Nat.ble a 212) 12 (cond (Nat.ble a 213) 12 12)) (cond (Nat.ble a 215) 15 (cond (Nat.ble a 216) 12 12)))) (cond (Nat.ble a 223) (cond (Nat.ble a 220) (cond (Nat.ble a 218) 12 (cond (Nat.ble a 219) 12 12)) (cond (Nat.ble a 221) 12 (cond (Nat.ble a 222) 12 12))) (cond (Nat.ble a 226) (cond (Nat.ble a 224) 15 (cond (Nat.ble a 225) 12 12)) (cond (Nat.ble a 227) 12 (cond (Nat.ble a 228) 12 12)))))) (cond (Nat.ble a 252) (cond (Nat.ble a 240) (cond (Nat.ble a 234) (cond (Nat.ble a 231) (cond (Nat.ble a 230) 12 12) (cond (Nat.ble a 232) 12 (cond (Nat.ble a 233) 12 15))) (cond (Nat.ble a 237) (cond (Nat.ble a 235) 12 (cond (Nat.ble a 236) 12 12)) (cond (Nat.ble a 238) 13 (cond (Nat.ble a 239) 12 12)))) (cond (Nat.ble a 246) (cond (Nat.ble a 243) (cond (Nat.ble a 241) 12 (cond (Nat.ble a 242) 12 12)) (cond (Nat.ble a 244) 15 (cond (Nat.ble a 245) 12 12))) (cond (Nat.ble a 249) (cond (Nat.ble a 247) 12 (cond (Nat.ble a 248) 12 12)) (cond (Nat.ble a 250) 12 (cond (Nat.ble a 251) 12 12))))) (cond (Nat.ble a 263) (cond (Nat.ble a 257) (cond (Nat.ble a 254) (cond (Nat.ble a 253) 15 12) (cond (Nat.ble a 255) 12 (cond (Nat.ble a 256) 12 12))) (cond (Nat.ble a 260) (cond (Nat.ble a 258) 12 (cond (Nat.ble a 259) 12 12)) (cond (Nat.ble a 261) 12 (cond (Nat.ble a 262) 12 12)))) (cond (Nat.ble a 269) (cond (Nat.ble a 266) (cond (Nat.ble a 264) 12 (cond (Nat.ble a 265) 12 12)) (cond (Nat.ble a 267) 12 (cond (Nat.ble a 268) 12 12))) (cond (Nat.ble a 272) (cond (Nat.ble a 270) 12 (cond (Nat.ble a 271) 12 12)) (cond (Nat.ble a 273) 12 (cond (Nat.ble a 274) 12 12))))))) (cond (Nat.ble a 321) (cond (Nat.ble a 298) (cond (Nat.ble a 286) (cond (Nat.ble a 280) (cond (Nat.ble a 277) (cond (Nat.ble a 276) 12 12) (cond (Nat.ble a 278) 12 (cond (Nat.ble a 279) 12 12))) (cond (Nat.ble a 283) (cond (Nat.ble a 281) 12 (cond (Nat.ble a 282) 12 12)) (cond (Nat.ble a 284) 12 (cond (Nat.ble a 285) 12 12)))) (cond (Nat.ble a 292) (cond (Nat.ble a 289) (cond (Nat.ble a 287) 12 (cond (Nat.ble a 288) 12 12)) (cond (Nat.ble a 290) 12 (cond (Nat.ble a 291) 12 12))) (cond (Nat.ble a 295) (cond (Nat.ble a 293) 12 (cond (Nat.ble a 294) 12 12)) (cond (Nat.ble a 296) 12 (cond (Nat.ble a 297) 12 12))))) (cond (Nat.ble a 309) (cond (Nat.ble a 303) (cond (Nat.ble a 300) (cond (Nat.ble a 299) 12 12) (cond (Nat.ble a 301) 12 (cond (Nat.ble a 302) 12 12))) (cond (Nat.ble a 306) (cond (Nat.ble a 304) 12 (cond (Nat.ble a 305) 12 12)) (cond (Nat.ble a 307) 12 (cond (Nat.ble a 308) 12 12)))) (cond (Nat.ble a 315) (cond (Nat.ble a 312) (cond (Nat.ble a 310) 12 (cond (Nat.ble a 311) 12 12)) (cond (Nat.ble a 313) 12 (cond (Nat.ble a 314) 12 12))) (cond (Nat.ble a 318) (cond (Nat.ble a 316) 12 (cond (Nat.ble a 317) 12 15)) (cond (Nat.ble a 319) 12 (cond (Nat.ble a 320) 12 12)))))) (cond (Nat.ble a 344) (cond (Nat.ble a 332) (cond (Nat.ble a 326) (cond (Nat.ble a 323) (cond (Nat.ble a 322) 15 12) (cond (Nat.ble a 324) 12 (cond (Nat.ble a 325) 12 12))) (cond (Nat.ble a 329) (cond (Nat.ble a 327) 12 (cond (Nat.ble a 328) 12 12)) (cond (Nat.ble a 330) 12 (cond (Nat.ble a 331) 12 12)))) (cond (Nat.ble a 338) (cond (Nat.ble a 335) (cond (Nat.ble a 333) 12 (cond (Nat.ble a 334) 12 12)) (cond (Nat.ble a 336) 12 (cond (Nat.ble a 337) 12 15))) (cond (Nat.ble a 341) (cond (Nat.ble a 339) 12 (cond (Nat.ble a 340) 12 12)) (cond (Nat.ble a 342) 12 (cond (Nat.ble a 343) 12 12))))) (cond (Nat.ble a 356) (cond (Nat.ble a 350) (cond (Nat.ble a 347) (cond (Nat.ble a 345) 12 (cond (Nat.ble a 346) 12 15)) (cond (Nat.ble a 348) 12 (cond (Nat.ble a 349) 12 12))) (cond (Nat.ble a 353) (cond (Nat.ble a 351) 12 (cond (Nat.ble a 352) 12 12)) (cond (Nat.ble a 354) 12 (cond (Nat.ble a 355) 12 12)))) (cond (Nat.ble a 362) (cond (Nat.ble a 359) (cond (Nat.ble a 357) 13 (cond (Nat.ble a 358) 12 16)) (cond (Nat.ble a 360) 13 (cond (Nat.ble a 361) 13 13))) (cond (Nat.ble a 365) (cond (Nat.ble a 363) 13 (cond (Nat.ble a 364) 13 13)) (cond (Nat.ble a 366) 12 (cond (Nat.ble a 367) 14 18)))))))))
def lS (a : Nat) : Nat := (cond (Nat.ble a 183) (cond (Nat.ble a 91) (cond (Nat.ble a 45) (cond (Nat.ble a 22) (cond (Nat.ble a 10) (cond (Nat.ble a 4) (cond (Nat.ble a 1) (cond (Nat.ble a 0) 0 0) (cond (Nat.ble a 2) 600 (cond (Nat.ble a 3) 0 0))) (cond (Nat.ble a 7) (cond (Nat.ble a 5) 10 (cond (Nat.ble a 6) 0 36)) (cond (Nat.ble a 8) 0 (cond (Nat.ble a 9) 56 0)))) (cond (Nat.ble a 16) (cond (Nat.ble a 13) (cond (Nat.ble a 11) 72 (cond (Nat.ble a 12) 0 9)) (cond (Nat.ble a 14) 0 (cond (Nat.ble a 15) 400 0))) (cond (Nat.ble a 19) (cond (Nat.ble a 17) 0 (cond (Nat.ble a 18) 0 10)) (cond (Nat.ble a 20) 0 (cond (Nat.ble a 21) 36 0))))) (cond (Nat.ble a 33) (cond (Nat.ble a 27) (cond (Nat.ble a 24) (cond (Nat.ble a 23) 56 0) (cond (Nat.ble a 25) 72 (cond (Nat.ble a 26) 0 9))) (cond (Nat.ble a 30) (cond (Nat.ble a 28) 0 (cond (Nat.ble a 29) 400 0)) (cond (Nat.ble a 31) 0 (cond (Nat.ble a 32) 120 0)))) (cond (Nat.ble a 39) (cond (Nat.ble a 36) (cond (Nat.ble a 34) 24 (cond (Nat.ble a 35) 0 27)) (cond (Nat.ble a 37) 3 (cond (Nat.ble a 38) 0 0))) (cond (Nat.ble a 42) (cond (Nat.ble a 40) 120 (cond (Nat.ble a 41) 0 24)) (cond (Nat.ble a 43) 0 (cond (Nat.ble a 44) 27 0)))))) (cond (Nat.ble a 68) (cond (Nat.ble a 56) (cond (Nat.ble a 50) (cond (Nat.ble a 47) (cond (Nat.ble a 46) 0 120) (cond (Nat.ble a 48) 0 (cond (Nat.ble a 49) 24 0))) (cond (Nat.ble a 53) (cond (Nat.ble a 51) 27 (cond (Nat.ble a 52) 0 0)) (cond (Nat.ble a 54) 120 (cond (Nat.ble a 55) 0 24)))) (cond (Nat.ble a 62) (cond (Nat.ble a 59) (cond (Nat.ble a 57) 0 (cond (Nat.ble a 58) 27 0)) (cond (Nat.ble a 60) 0 (cond (Nat.ble a 61) 0 512))) (cond (Nat.ble a 65) (cond (Nat.ble a 63) 0 (cond (Nat.ble a 64) 24 0)) (cond (Nat.ble a 66) 24 (cond (Nat.ble a 67) 0 14))))) (cond (Nat.ble a 79) (cond (Nat.ble a 73) (cond (Nat.ble a 70) (cond (Nat.ble a 69) 0 36) (cond (Nat.ble a 71) 0 (cond (Nat.ble a 72) 8 0))) (cond (Nat.ble a 76) (cond (Nat.ble a 74) 64 (cond (Nat.ble a 75) 0 8)) (cond (Nat.ble a 77) 0 (cond (Nat.ble a 78) 8 0)))) (cond (Nat.ble a 85) (cond (Nat.ble a 82) (cond (Nat.ble a 80) 8 (cond (Nat.ble a 81) 0 0)) (cond (Nat.ble a 83) 96 (cond (Nat.ble a 84) 0 96))) (cond (Nat.ble a 88) (cond (Nat.ble a 86) 0 (cond (Nat.ble a 87) 8 0)) (cond (Nat.ble a 89) 12 (cond (Nat.ble a 90) 0 8))))))) (cond (Nat.ble a 137) (cond (Nat.ble a 114) (cond (Nat.ble a 102) (cond (Nat.ble a 96) (cond (Nat.ble a 93) (cond (Nat.ble a 92) 0 12) (cond (Nat.ble a 94) 0 (cond (Nat.ble a 95) 12 0))) (cond (Nat.ble a 99) (cond (Nat.ble a 97) 64 (cond (Nat.ble a 98) 0 0)) (cond (Nat.ble a 100) 8 (cond (Nat.ble a 101) 0 8)))) (cond (Nat.ble a 108) (cond (Nat.ble a 105) (cond (Nat.ble a 103) 0 (cond (Nat.ble a 104) 12 0)) (cond (Nat.ble a 106) 0 (cond (Nat.ble a 107) 9 0))) (cond (Nat.ble a 111) (cond (Nat.ble a 109) 600 (cond (Nat.ble a 110) 11 11)) (cond (Nat.ble a 112) 9 (cond (Nat.ble a 113) 4 4))))) (cond (Nat.ble a 125) (cond (Nat.ble a 119) (cond (Nat.ble a 116) (cond (Nat.ble a 115) 4 4) (cond (Nat.ble a 117) 4 (cond (Nat.ble a 118) 4 4))) (cond (Nat.ble a 122) (cond (Nat.ble a 120) 4 (cond (Nat.ble a 121) 4 9)) (cond (Nat.ble a 123) 4 (cond (Nat.ble a 124) 4 4)))) (cond (Nat.ble a 131) (cond (Nat.ble a 128) (cond (Nat.ble a 126) 4 (cond (Nat.ble a 127) 4 4)) (cond (Nat.ble a 129) 4 (cond (Nat.ble a 130) 4 4))) (cond (Nat.ble a 134) (cond (Nat.ble a 132) 8 (cond (Nat.ble a 133) 7 7)) (cond (Nat.ble a 135) 7 (cond (Nat.ble a 136) 7 7)))))) (cond (Nat.ble a 160) (cond (Nat.ble a 148) (cond (Nat.ble a 142) (cond (Nat.ble a 139) (cond (Nat.ble a 138) 7 7) (cond (Nat.ble a 140) 7 (cond (Nat.ble a 141) 8 7))) (cond (Nat.ble a 145) (cond (Nat.ble a 143) 7 (cond (Nat.ble a 144) 7 7)) (cond (Nat.ble a 146) 7 (cond (Nat.ble a 147) 7 7)))) (cond (Nat.ble a 154) (cond (Nat.ble a 151) (cond (Nat.ble a 149) 7 (cond (Nat.ble a 150) 12 6)) (cond (Nat.ble a 152) 6 (cond (Nat.ble a 153) 6 6))) (cond (Nat.ble a 157) (cond (Nat.ble a 155) 6 (cond (Nat.ble a 156) 6 6)) (cond (Nat.ble a 158) 6 (cond (Nat.ble a 159) 6 6))))) (cond (Nat.ble a 171) (cond (Nat.ble a 165) (cond (Nat.ble a 162) (cond (Nat.ble a 161) 6 6) (cond (Nat.ble a 163) 12 (cond (Nat.ble a 164) 6 6))) (cond (Nat.ble a 168) (cond (Nat.ble a 166) 6 (cond (Nat.ble a 167) 6 6)) (cond (Nat.ble a 169) 6 (cond (Nat.ble a 170) 6 6)))) (cond (Nat.ble a 177) (cond (Nat.ble a 174) (cond (Nat.ble a 172) 6 (cond (Nat.ble a 173) 6 6)) (cond (Nat.ble a 175) 6 (cond (Nat.ble a 176) 3 3))) (cond (Nat.ble a 180) (cond (Nat.ble a 178) 3 (cond (Nat.ble a 179) 3 3)) (cond (Nat.ble a 181) 3 (cond (Nat.ble a 182) 3 3)))))))) (cond (Nat.ble a 275) (cond (Nat.ble a 229) (cond (Nat.ble a 206) (cond (Nat.ble a 194) (cond (Nat.ble a 188) (cond (Nat.ble a 185) (cond (Nat.ble a 184) 30 4) (cond (Nat.ble a 186) 4 (cond (Nat.ble a 187) 4 4))) (cond (Nat.ble a 191) (cond (Nat.ble a 189) 4 (cond (Nat.ble a 190) 4 4)) (cond (Nat.ble a 192) 4 (cond (Nat.ble a 193) 4 4)))) (cond (Nat.ble a 200) (cond (Nat.ble a 197) (cond (Nat.ble a 195) 4 (cond (Nat.ble a 196) 4 4)) (cond (Nat.ble a 198) 4 (cond (Nat.ble a 199) 4 4))) (cond (Nat.ble a 203) (cond (Nat.ble a 201) 4 (cond (Nat.ble a 202) 4 4)) (cond (Nat.ble a 204) 4 (cond (Nat.ble a 205) 4 4))))) (cond (Nat.ble a 217) (cond (Nat.ble a 211) (cond (Nat.ble a 208) (cond (Nat.ble a 207) 4 4) (cond (Nat.ble a 209) 4 (cond (Nat.ble a 210) 4 4))) (cond (Nat.ble a 214) (cond (Nat.ble a 212) 4 (cond (Nat.ble a 213) 4 4)) (cond (Nat.ble a 215) 8 (cond (Nat.ble a 216) 3 3)))) (cond (Nat.ble a 223) (cond (Nat.ble a 220) (cond (Nat.ble a 218) 3 (cond (Nat.ble a 219) 3 3)) (cond (Nat.ble a 221) 3 (cond (Nat.ble a 222) 3 3))) (cond (Nat.ble a 226) (cond (Nat.ble a 224) 9 (cond (Nat.ble a 225) 3 3)) (cond (Nat.ble a 227) 3 (cond (Nat.ble a 228) 3 3)))))) (cond (Nat.ble a 252) (cond (Nat.ble a 240) (cond (Nat.ble a 234) (cond (Nat.ble a 231) (cond (Nat.ble a 230) 3 3) (cond (Nat.ble a 232) 3 (cond (Nat.ble a 233) 3 3))) (cond (Nat.ble a 237) (cond (Nat.ble a 235) 240 (cond (Nat.ble a 236) 240 240)) (cond (Nat.ble a 238) 8 (cond (Nat.ble a 239) 8 8)))) (cond (Nat.ble a 246) (cond (Nat.ble a 243) (cond (Nat.ble a 241) 8 (cond (Nat.ble a 242) 8 8)) (cond (Nat.ble a 244) 8 (cond (Nat.ble a 245) 8 8))) (cond (Nat.ble a 249) (cond (Nat.ble a 247) 8 (cond (Nat.ble a 248) 8 8)) (cond (Nat.ble a 250) 8 (cond (Nat.ble a 251) 8 8))))) (cond (Nat.ble a 263) (cond (Nat.ble a 257) (cond (Nat.ble a 254) (cond (Nat.ble a 253) 64 8) (cond (Nat.ble a 255) 8 (cond (Nat.ble a 256) 8 8))) (cond (Nat.ble a 260) (cond (Nat.ble a 258) 8 (cond (Nat.ble a 259) 8 8)) (cond (Nat.ble a 261) 8 (cond (Nat.ble a 262) 8 8)))) (cond (Nat.ble a 269) (cond (Nat.ble a 266) (cond (Nat.ble a 264) 8 (cond (Nat.ble a 265) 8 8)) (cond (Nat.ble a 267) 8 (cond (Nat.ble a 268) 8 8))) (cond (Nat.ble a 272) (cond (Nat.ble a 270) 8 (cond (Nat.ble a 271) 8 8)) (cond (Nat.ble a 273) 8 (cond (Nat.ble a 274) 8 8))))))) (cond (Nat.ble a 321) (cond (Nat.ble a 298) (cond (Nat.ble a 286) (cond (Nat.ble a 280) (cond (Nat.ble a 277) (cond (Nat.ble a 276) 8 8) (cond (Nat.ble a 278) 8 (cond (Nat.ble a 279) 8 8))) (cond (Nat.ble a 283) (cond (Nat.ble a 281) 8 (cond (Nat.ble a 282) 8 8)) (cond (Nat.ble a 284) 8 (cond (Nat.ble a 285) 8 8)))) (cond (Nat.ble a 292) (cond (Nat.ble a 289) (cond (Nat.ble a 287) 8 (cond (Nat.ble a 288) 8 8)) (cond (Nat.ble a 290) 8 (cond (Nat.ble a 291) 8 8))) (cond (Nat.ble a 295) (cond (Nat.ble a 293) 8 (cond (Nat.ble a 294) 8 8)) (cond (Nat.ble a 296) 8 (cond (Nat.ble a 297) 8 8))))) (cond (Nat.ble a 309) (cond (Nat.ble a 303) (cond (Nat.ble a 300) (cond (Nat.ble a 299) 8 8) (cond (Nat.ble a 301) 8 (cond (Nat.ble a 302) 8 8))) (cond (Nat.ble a 306) (cond (Nat.ble a 304) 8 (cond (Nat.ble a 305) 8 8)) (cond (Nat.ble a 307) 8 (cond (Nat.ble a 308) 8 8)))) (cond (Nat.ble a 315) (cond (Nat.ble a 312) (cond (Nat.ble a 310) 8 (cond (Nat.ble a 311) 8 8)) (cond (Nat.ble a 313) 8 (cond (Nat.ble a 314) 8 8))) (cond (Nat.ble a 318) (cond (Nat.ble a 316) 8 (cond (Nat.ble a 317) 8 3)) (cond (Nat.ble a 319) 8 (cond (Nat.ble a 320) 8 8)))))) (cond (Nat.ble a 344) (cond (Nat.ble a 332) (cond (Nat.ble a 326) (cond (Nat.ble a 323) (cond (Nat.ble a 322) 8 3) (cond (Nat.ble a 324) 3 (cond (Nat.ble a 325) 3 3))) (cond (Nat.ble a 329) (cond (Nat.ble a 327) 3 (cond (Nat.ble a 328) 3 3)) (cond (Nat.ble a 330) 3 (cond (Nat.ble a 331) 12 12)))) (cond (Nat.ble a 338) (cond (Nat.ble a 335) (cond (Nat.ble a 333) 12 (cond (Nat.ble a 334) 8 8)) (cond (Nat.ble a 336) 50 (cond (Nat.ble a 337) 50 8))) (cond (Nat.ble a 341) (cond (Nat.ble a 339) 12 (cond (Nat.ble a 340) 12 12)) (cond (Nat.ble a 342) 12 (cond (Nat.ble a 343) 12 12))))) (cond (Nat.ble a 356) (cond (Nat.ble a 350) (cond (Nat.ble a 347) (cond (Nat.ble a 345) 12 (cond (Nat.ble a 346) 12 8)) (cond (Nat.ble a 348) 12 (cond (Nat.ble a 349) 12 12))) (cond (Nat.ble a 353) (cond (Nat.ble a 351) 12 (cond (Nat.ble a 352) 12 12)) (cond (Nat.ble a 354) 12 (cond (Nat.ble a 355) 12 8)))) (cond (Nat.ble a 362) (cond (Nat.ble a 359) (cond (Nat.ble a 357) 12 (cond (Nat.ble a 358) 8 6)) (cond (Nat.ble a 360) 9 (cond (Nat.ble a 361) 9 9))) (cond (Nat.ble a 365) (cond (Nat.ble a 363) 9 (cond (Nat.ble a 364) 9 9)) (cond (Nat.ble a 366) 9 (cond (Nat.ble a 367) 1 0)))))))))
def rS (a : Nat) : Nat → Nat := (cond (Nat.ble a 54) (cond (Nat.ble a 26) (cond (Nat.ble a 12) (cond (Nat.ble a 5) (cond (Nat.ble a 2) (cond (Nat.ble a 0) (fun k => (cond (Nat.ble k 5) (cond (Nat.ble k 2) (cond (Nat.ble k 0) 2 (cond (Nat.ble k 1) 0 4)) (cond (Nat.ble k 3) 17 (cond (Nat.ble k 4) 0 31))) (cond (Nat.ble k 8) (cond (Nat.ble k 6) 38 (cond (Nat.ble k 7) 0 60)) (cond (Nat.ble k 10) (cond (Nat.ble k 9) 82 99) (cond (Nat.ble k 11) 106 0))))) (cond (Nat.ble a 1) (fun k => (cond (Nat.ble k 0) 3 0)) (fun _ => 0))) (cond (Nat.ble a 3) (fun k => (cond (Nat.ble k 2) (cond (Nat.ble k 0) 5 (cond (Nat.ble k 1) 7 9)) (cond (Nat.ble k 4) (cond (Nat.ble k 3) 11 13) (cond (Nat.ble k 5) 15 0)))) (cond (Nat.ble a 4) (fun k => (cond (Nat.ble k 0) 6 0)) (fun _ => 0)))) (cond (Nat.ble a 8) (cond (Nat.ble a 6) (fun k => (cond (Nat.ble k 1) (cond (Nat.ble k 0) 0 0) (cond (Nat.ble k 2) 8 (cond (Nat.ble k 3) 0 0)))) (cond (Nat.ble a 7) (fun _ => 0) (fun k => (cond (Nat.ble k 1) (cond (Nat.ble k 0) 0 0) (cond (Nat.ble k 2) 10 (cond (Nat.ble k 3) 0 0)))))) (cond (Nat.ble a 10) (cond (Nat.ble a 9) (fun _ => 0) (fun k => (cond (Nat.ble k 1) (cond (Nat.ble k 0) 0 0) (cond (Nat.ble k 2) 12 (cond (Nat.ble k 3) 0 0))))) (cond (Nat.ble a 11) (fun _ => 0) (fun k => (cond (Nat.ble k 1) (cond (Nat.ble k 0) 0 0) (cond (Nat.ble k 2) 14 (cond (Nat.ble k 3) 0 0)))))))) (cond (Nat.ble a 19) (cond (Nat.ble a 15) (cond (Nat.ble a 13) (fun _ => 0) (cond (Nat.ble a 14) (fun k => (cond (Nat.ble k 1) (cond (Nat.ble k 0) 0 0) (cond (Nat.ble k 2) 16 (cond (Nat.ble k 3) 0 0)))) (fun _ => 0))) (cond (Nat.ble a 17) (cond (Nat.ble a 16) (fun k => (cond (Nat.ble k 3) (cond (Nat.ble k 1) (cond (Nat.ble k 0) 2 18) (cond (Nat.ble k 2) 0 0)) (cond (Nat.ble k 5) (cond (Nat.ble k 4) 0 0) (cond (Nat.ble k 6) 0 0)))) (fun k => (cond (Nat.ble k 2) (cond (Nat.ble k 0) 19 (cond (Nat.ble k 1) 21 23)) (cond (Nat.ble k 4) (cond (Nat.ble k 3) 25 27) (cond (Nat.ble k 5) 29 0))))) (cond (Nat.ble a 18) (fun k => (cond (Nat.ble k 0) 20 0)) (fun _ => 0)))) (cond (Nat.ble a 22) (cond (Nat.ble a 20) (fun k => (cond (Nat.ble k 1) (cond (Nat.ble k 0) 0 0) (cond (Nat.ble k 2) 22 (cond (Nat.ble k 3) 0 0)))) (cond (Nat.ble a 21) (fun _ => 0) (fun k => (cond (Nat.ble k 1) (cond (Nat.ble k 0) 0 0) (cond (Nat.ble k 2) 24 (cond (Nat.ble k 3) 0 0)))))) (cond (Nat.ble a 24) (cond (Nat.ble a 23) (fun _ => 0) (fun k => (cond (Nat.ble k 1) (cond (Nat.ble k 0) 0 0) (cond (Nat.ble k 2) 26 (cond (Nat.ble k 3) 0 0))))) (cond (Nat.ble a 25) (fun _ => 0) (fun k => (cond (Nat.ble k 1) (cond (Nat.ble k 0) 0 0) (cond (Nat.ble k 2) 28 (cond (Nat.ble k 3) 0 0))))))))) (cond (Nat.ble a 40) (cond (Nat.ble a 33) (cond (Nat.ble a 29) (cond (Nat.ble a 27) (fun _ => 0) (cond (Nat.ble a 28) (fun k => (cond (Nat.ble k 1) (cond (Nat.ble k 0) 0 0) (cond (Nat.ble k 2) 30 (cond (Nat.ble k 3) 0 0)))) (fun _ => 0))) (cond (Nat.ble a 31) (cond (Nat.ble a 30) (fun k => (cond (Nat.ble k 1) (cond (Nat.ble k 0) 32 34) (cond (Nat.ble k 2) 36 0))) (fun k => (cond (Nat.ble k 1) (cond (Nat.ble k 0) 0 0) (cond (Nat.ble k 2) 33 (cond (Nat.ble k 3) 0 0))))) (cond (Nat.ble a 32) (fun _ => 0) (fun k => (cond (Nat.ble k 1) (cond (Nat.ble k 0) 0 0) (cond (Nat.ble k 2) 35 (cond (Nat.ble k 3) 0 0))))))) (cond (Nat.ble a 36) (cond (Nat.ble a 34) (fun _ => 0) (cond (Nat.ble a 35) (fun k => (cond (Nat.ble k 1) (cond (Nat.ble k 0) 0 0) (cond (Nat.ble k 2) 37 (cond (Nat.ble k 3) 0 0)))) (fun _ => 0))) (cond (Nat.ble a 38) (cond (Nat.ble a 37) (fun k => (cond (Nat.ble k 1) (cond (Nat.ble k 0) 39 46) (cond (Nat.ble k 2) 53 0))) (fun k => (cond (Nat.ble k 1) (cond (Nat.ble k 0) 40 42) (cond (Nat.ble k 2) 44 0)))) (cond (Nat.ble a 39) (fun k => (cond (Nat.ble k 1) (cond (Nat.ble k 0) 0 0) (cond (Nat.ble k 2) 41 (cond (Nat.ble k 3) 0 0)))) (fun _ => 0))))) (cond (Nat.ble a 47) (cond (Nat.ble a 43) (cond (Nat.ble a 41) (fun k => (cond (Nat.ble k 1) (cond (Nat.ble k 0) 0 0) (cond (Nat.ble k 2) 43 (cond (Nat.ble k 3) 0 0)))) (cond (Nat.ble a 42) (fun _ => 0) (fun k => (cond (Nat.ble k 1) (cond (Nat.ble k 0) 0 0) (cond (Nat.ble k 2) 45 (cond (Nat.ble k 3) 0 0)))))) (cond (Nat.ble a 45) (cond (Nat.ble a 44) (fun _ => 0) (fun k => (cond (Nat.ble k 1) (cond (Nat.ble k 0) 47 49) (cond (Nat.ble k 2) 51 0)))) (cond (Nat.ble a 46) (fun k => (cond (Nat.ble k 1) (cond (Nat.ble k 0) 0 0) (cond (Nat.ble k 2) 48 (cond (Nat.ble k 3) 0 0)))) (fun _ => 0)))) (cond (Nat.ble a 50) (cond (Nat.ble a 48) (fun k => (cond (Nat.ble k 1) (cond (Nat.ble k 0) 0 0) (cond (Nat.ble k 2) 50 (cond (Nat.ble k 3) 0 0)))) (cond (Nat.ble a 49) (fun _ => 0) (fun k => (cond (Nat.ble k 1) (cond (Nat.ble k 0) 0 0) (cond (Nat.ble k 2) 52 (cond (Nat.ble k 3) 0 0)))))) (cond (Nat.ble a 52) (cond (Nat.ble a 51) (fun _ => 0) (fun k => (cond (Nat.ble k 1) (cond (Nat.ble k 0) 54 56) (cond (Nat.ble k 2) 58 0)))) (cond (Nat.ble a 53) (fun k => (cond (Nat.ble k 1) (cond (Nat.ble k 0) 0 0) (cond (Nat.ble k 2) 55 (cond (Nat.ble k 3) 0 0)))) (fun _ => 0))))))) (cond (Nat.ble a 81) (cond (Nat.ble a 67) (cond (Nat.ble a 60) (cond (Nat.ble a 57) (cond (Nat.ble a 55) (fun k => (cond (Nat.ble k 1) (cond (Nat.ble k 0) 0 0) (cond (Nat.ble k 2) 57 (cond (Nat.ble k 3) 0 0)))) (cond (Nat.ble a 56) (fun _ => 0) (fun k => (cond (Nat.ble k 1) (cond (Nat.ble k 0) 0 0) (cond (Nat.ble k 2) 59 (cond (Nat.ble k 3) 0 0)))))) (cond (Nat.ble a 58) (fun _ => 0) (cond (Nat.ble a 59) (fun k => (cond (Nat.ble k 5) (cond (Nat.ble k 2) (cond (Nat.ble k 0) 4 (cond (Nat.ble k 1) 31 61)) (cond (Nat.ble k 3) 72 (cond (Nat.ble k 4) 74 76))) (cond (Nat.ble k 8) (cond (Nat.ble k 6) 78 (cond (Nat.ble k 7) 80 0)) (cond (Nat.ble k 9) 0 (cond (Nat.ble k 10) 0 0))))) (fun k => (cond (Nat.ble k 4) (cond (Nat.ble k 1) (cond (Nat.ble k 0) 4 62) (cond (Nat.ble k 2) 64 (cond (Nat.ble k 3) 66 68))) (cond (Nat.ble k 7) (cond (Nat.ble k 5) 70 (cond (Nat.ble k 6) 0 0)) (cond (Nat.ble k 8) 0 (cond (Nat.ble k 9) 0 0)))))))) (cond (Nat.ble a 63) (cond (Nat.ble a 61) (fun k => (cond (Nat.ble k 1) (cond (Nat.ble k 0) 0 0) (cond (Nat.ble k 2) 63 (cond (Nat.ble k 3) 0 0)))) (cond (Nat.ble a 62) (fun _ => 0) (fun k => (cond (Nat.ble k 1) (cond (Nat.ble k 0) 0 0) (cond (Nat.ble k 2) 65 (cond (Nat.ble k 3) 0 0)))))) (cond (Nat.ble a 65) (cond (Nat.ble a 64) (fun _ => 0) (fun k => (cond (Nat.ble k 1) (cond (Nat.ble k 0) 0 0) (cond (Nat.ble k 2) 67 (cond (Nat.ble k 3) 0 0))))) (cond (Nat.ble a 66) (fun _ => 0) (fun k => (cond (Nat.ble k 1) (cond (Nat.ble k 0) 0 0) (cond (Nat.ble k 2) 69 (cond (Nat.ble k 3) 0 0)))))))) (cond (Nat.ble a 74) (cond (Nat.ble a 70) (cond (Nat.ble a 68) (fun _ => 0) (cond (Nat.ble a 69) (fun k => (cond (Nat.ble k 1) (cond (Nat.ble k 0) 0 0) (cond (Nat.ble k 2) 71 (cond (Nat.ble k 3) 0 0)))) (fun _ => 0))) (cond (Nat.ble a 72) (cond (Nat.ble a 71) (fun k => (cond (Nat.ble k 0) 73 0)) (fun _ => 0)) (cond (Nat.ble a 73) (fun k => (cond (Nat.ble k 1) (cond (Nat.ble k 0) 0 0) (cond (Nat.ble k 2) 75 (cond (Nat.ble k 3) 0 0)))) (fun _ => 0)))) (cond (Nat.ble a 77) (cond (Nat.ble a 75) (fun k => (cond (Nat.ble k 0) 77 0)) (cond (Nat.ble a 76) (fun _ => 0) (fun k => (cond (Nat.ble k 0) 79 0)))) (cond (Nat.ble a 79) (cond (Nat.ble a 78) (fun _ => 0) (fun k => (cond (Nat.ble k 0) 81 0))) (cond (Nat.ble a 80) (fun _ => 0) (fun k => (cond (Nat.ble k 5) (cond (Nat.ble k 2) (cond (Nat.ble k 0) 4 (cond (Nat.ble k 1) 83 85)) (cond (Nat.ble k 3) 87 (cond (Nat.ble k 4) 89 91))) (cond (Nat.ble k 8) (cond (Nat.ble k 6) 93 (cond (Nat.ble k 7) 95 97)) (cond (Nat.ble k 9) 0 (cond (Nat.ble k 10) 0 0)))))))))) (cond (Nat.ble a 95) (cond (Nat.ble a 88) (cond (Nat.ble a 84) (cond (Nat.ble a 82) (fun k => (cond (Nat.ble k 1) (cond (Nat.ble k 0) 0 0) (cond (Nat.ble k 2) 84 (cond (Nat.ble k 3) 0 0)))) (cond (Nat.ble a 83) (fun _ => 0) (fun k => (cond (Nat.ble k 1) (cond (Nat.ble k 0) 0 0) (cond (Nat.ble k 2) 86 (cond (Nat.ble k 3) 0 0)))))) (cond (Nat.ble a 86) (cond (Nat.ble a 85) (fun _ => 0) (fun k => (cond (Nat.ble k 0) 88 0))) (cond (Nat.ble a 87) (fun _ => 0) (fun k => (cond (Nat.ble k 0) 90 0))))) (cond (Nat.ble a 91) (cond (Nat.ble a 89) (fun _ => 0) (cond (Nat.ble a 90) (fun k => (cond (Nat.ble k 0) 92 0)) (fun _ => 0))) (cond (Nat.ble a 93) (cond (Nat.ble a 92) (fun k => (cond (Nat.ble k 0) 94 0)) (fun _ => 0)) (cond (Nat.ble a 94) (fun k => (cond (Nat.ble k 0) 96 0)) (fun _ => 0))))) (cond (Nat.ble a 102) (cond (Nat.ble a 98) (cond (Nat.ble a 96) (fun k => (cond (Nat.ble k 0) 98 0)) (cond (Nat.ble a 97) (fun _ => 0) (fun k => (cond (Nat.ble k 2) (cond (Nat.ble k 0) 4 (cond (Nat.ble k 1) 31 100)) (cond (Nat.ble k 4) (cond (Nat.ble k 3) 102 104) (cond (Nat.ble k 5) 0 0)))))) (cond (Nat.ble a 100) (cond (Nat.ble a 99) (fun k => (cond (Nat.ble k 0) 101 0)) (fun _ => 0)) (cond (Nat.ble a 101) (fun k => (cond (Nat.ble k 0) 103 0)) (fun _ => 0)))) (cond (Nat.ble a 105) (cond (Nat.ble a 103) (fun k => (cond (Nat.ble k 0) 105 0)) (cond (Nat.ble a 104) (fun _ => 0) (fun k => (cond (Nat.ble k 2) (cond (Nat.ble k 0) 4 (cond (Nat.ble k 1) 31 107)) (cond (Nat.ble k 4) (cond (Nat.ble k 3) 0 0) (cond (Nat.ble k 5) 0 0)))))) (cond (Nat.ble a 107) (cond (Nat.ble a 106) (fun k => (cond (Nat.ble k 0) 108 0)) (fun _ => 0)) (cond (Nat.ble a 108) (fun k => (cond (Nat.ble k 30) (cond (Nat.ble k 14) (cond (Nat.ble k 6) (cond (Nat.ble k 2) (cond (Nat.ble k 0) 0 (cond (Nat.ble k 1) 0 0)) (cond (Nat.ble k 4) (cond (Nat.ble k 3) 0 0) (cond (Nat.ble k 5) 0 0))) (cond (Nat.ble k 10) (cond (Nat.ble k 8) (cond (Nat.ble k 7) 0 110) (cond (Nat.ble k 9) 111 112)) (cond (Nat.ble k 12) (cond (Nat.ble k 11) 113 123) (cond (Nat.ble k 13) 133 142)))) (cond (Nat.ble k 22) (cond (Nat.ble k 18) (cond (Nat.ble k 16) (cond (Nat.ble k 15) 151 164) (cond (Nat.ble k 17) 177 181)) (cond (Nat.ble k 20) (cond (Nat.ble k 19) 0 0) (cond (Nat.ble k 21) 0 0))) (cond (Nat.ble k 26) (cond (Nat.ble k 24) (cond (Nat.ble k 23) 0 185) (cond (Nat.ble k 25) 216 225)) (cond (Nat.ble k 28) (cond (Nat.ble k 27) 235 239) (cond (Nat.ble k 29) 240 241))))) (cond (Nat.ble k 45) (cond (Nat.ble k 37) (cond (Nat.ble k 33) (cond (Nat.ble k 31) 242 (cond (Nat.ble k 32) 243 244)) (cond (Nat.ble k 35) (cond (Nat.ble k 34) 245 254) (cond (Nat.ble k 36) 319 323))) (cond (Nat.ble k 41) (cond (Nat.ble k 39) (cond (Nat.ble k 38) 332 333) (cond (Nat.ble k 40) 334 335)) (cond (Nat.ble k 43) (cond (Nat.ble k 42) 336 0) (cond (Nat.ble k 44) 0 0)))) (cond (Nat.ble k 53) (cond (Nat.ble k 49) (cond (Nat.ble k 47) (cond (Nat.ble k 46) 0 0) (cond (Nat.ble k 48) 0 0)) (cond (Nat.ble k 51) (cond (Nat.ble k 50) 337 338) (cond (Nat.ble k 52) 339 348))) (cond (Nat.ble k 57) (cond (Nat.ble k 55) (cond (Nat.ble k 54) 357 358) (cond (Nat.ble k 56) 359 360)) (cond (Nat.ble k 59) (cond (Nat.ble k 58) 367 0) (cond (Nat.ble k 60) 0 0))))))) (fun _ => 0))))))))
def iSn (a : Nat) : Nat → Nat := (cond (Nat.ble a 41) (cond (Nat.ble a 23) (cond (Nat.ble a 11) (cond (Nat.ble a 7) (cond (Nat.ble a 5) (fun _ => 0) (cond (Nat.ble a 6) (fun k => (cond (Nat.ble k 1) (cond (Nat.ble k 0) 9 4) (cond (Nat.ble k 2) 0 (cond (Nat.ble k 3) 0 0)))) (fun _ => 0))) (cond (Nat.ble a 9) (cond (Nat.ble a 8) (fun k => (cond (Nat.ble k 1) (cond (Nat.ble k 0) 8 7) (cond (Nat.ble k 2) 0 (cond (Nat.ble k 3) 0 0)))) (fun _ => 0)) (cond (Nat.ble a 10) (fun k => (cond (Nat.ble k 1) (cond (Nat.ble k 0) 12 6) (cond (Nat.ble k 2) 0 (cond (Nat.ble k 3) 0 0)))) (fun _ => 0)))) (cond (Nat.ble a 19) (cond (Nat.ble a 13) (cond (Nat.ble a 12) (fun k => (cond (Nat.ble k 1) (cond (Nat.ble k 0) 3 3) (cond (Nat.ble k 2) 0 (cond (Nat.ble k 3) 0 0)))) (fun _ => 0)) (cond (Nat.ble a 14) (fun k => (cond (Nat.ble k 1) (cond (Nat.ble k 0) 8 50) (cond (Nat.ble k 2) 0 (cond (Nat.ble k 3) 0 0)))) (fun _ => 0))) (cond (Nat.ble a 21) (cond (Nat.ble a 20) (fun k => (cond (Nat.ble k 1) (cond (Nat.ble k 0) 9 4) (cond (Nat.ble k 2) 0 (cond (Nat.ble k 3) 0 0)))) (fun _ => 0)) (cond (Nat.ble a 22) (fun k => (cond (Nat.ble k 1) (cond (Nat.ble k 0) 8 7) (cond (Nat.ble k 2) 0 (cond (Nat.ble k 3) 0 0)))) (fun _ => 0))))) (cond (Nat.ble a 31) (cond (Nat.ble a 26) (cond (Nat.ble a 24) (fun k => (cond (Nat.ble k 1) (cond (Nat.ble k 0) 12 6) (cond (Nat.ble k 2) 0 (cond (Nat.ble k 3) 0 0)))) (cond (Nat.ble a 25) (fun _ => 0) (fun k => (cond (Nat.ble k 1) (cond (Nat.ble k 0) 3 3) (cond (Nat.ble k 2) 0 (cond (Nat.ble k 3) 0 0)))))) (cond (Nat.ble a 28) (cond (Nat.ble a 27) (fun _ => 0) (fun k => (cond (Nat.ble k 1) (cond (Nat.ble k 0) 8 50) (cond (Nat.ble k 2) 0 (cond (Nat.ble k 3) 0 0))))) (cond (Nat.ble a 30) (fun _ => 0) (fun k => (cond (Nat.ble k 1) (cond (Nat.ble k 0) 30 4) (cond (Nat.ble k 2) 0 (cond (Nat.ble k 3) 0 0))))))) (cond (Nat.ble a 35) (cond (Nat.ble a 33) (cond (Nat.ble a 32) (fun _ => 0) (fun k => (cond (Nat.ble k 1) (cond (Nat.ble k 0) 8 3) (cond (Nat.ble k 2) 0 (cond (Nat.ble k 3) 0 0))))) (cond (Nat.ble a 34) (fun _ => 0) (fun k => (cond (Nat.ble k 1) (cond (Nat.ble k 0) 9 3) (cond (Nat.ble k 2) 0 (cond (Nat.ble k 3) 0 0)))))) (cond (Nat.ble a 39) (cond (Nat.ble a 38) (fun _ => 0) (fun k => (cond (Nat.ble k 1) (cond (Nat.ble k 0) 30 4) (cond (Nat.ble k 2) 0 (cond (Nat.ble k 3) 0 0))))) (cond (Nat.ble a 40) (fun _ => 0) (fun k => (cond (Nat.ble k 1) (cond (Nat.ble k 0) 8 3) (cond (Nat.ble k 2) 0 (cond (Nat.ble k 3) 0 0))))))))) (cond (Nat.ble a 60) (cond (Nat.ble a 49) (cond (Nat.ble a 45) (cond (Nat.ble a 42) (fun _ => 0) (cond (Nat.ble a 43) (fun k => (cond (Nat.ble k 1) (cond (Nat.ble k 0) 9 3) (cond (Nat.ble k 2) 0 (cond (Nat.ble k 3) 0 0)))) (fun _ => 0))) (cond (Nat.ble a 47) (cond (Nat.ble a 46) (fun k => (cond (Nat.ble k 1) (cond (Nat.ble k 0) 30 4) (cond (Nat.ble k 2) 0 (cond (Nat.ble k 3) 0 0)))) (fun _ => 0)) (cond (Nat.ble a 48) (fun k => (cond (Nat.ble k 1) (cond (Nat.ble k 0) 8 3) (cond (Nat.ble k 2) 0 (cond (Nat.ble k 3) 0 0)))) (fun _ => 0)))) (cond (Nat.ble a 54) (cond (Nat.ble a 52) (cond (Nat.ble a 50) (fun k => (cond (Nat.ble k 1) (cond (Nat.ble k 0) 9 3) (cond (Nat.ble k 2) 0 (cond (Nat.ble k 3) 0 0)))) (fun _ => 0)) (cond (Nat.ble a 53) (fun k => (cond (Nat.ble k 1) (cond (Nat.ble k 0) 30 4) (cond (Nat.ble k 2) 0 (cond (Nat.ble k 3) 0 0)))) (fun _ => 0))) (cond (Nat.ble a 56) (cond (Nat.ble a 55) (fun k => (cond (Nat.ble k 1) (cond (Nat.ble k 0) 8 3) (cond (Nat.ble k 2) 0 (cond (Nat.ble k 3) 0 0)))) (fun _ => 0)) (cond (Nat.ble a 57) (fun k => (cond (Nat.ble k 1) (cond (Nat.ble k 0) 9 3) (cond (Nat.ble k 2) 0 (cond (Nat.ble k 3) 0 0)))) (fun _ => 0))))) (cond (Nat.ble a 68) (cond (Nat.ble a 64) (cond (Nat.ble a 62) (cond (Nat.ble a 61) (fun k => (cond (Nat.ble k 1) (cond (Nat.ble k 0) 64 8) (cond (Nat.ble k 2) 0 (cond (Nat.ble k 3) 0 0)))) (fun _ => 0)) (cond (Nat.ble a 63) (fun k => (cond (Nat.ble k 1) (cond (Nat.ble k 0) 3 8) (cond (Nat.ble k 2) 0 (cond (Nat.ble k 3) 0 0)))) (fun _ => 0))) (cond (Nat.ble a 66) (cond (Nat.ble a 65) (fun k => (cond (Nat.ble k 1) (cond (Nat.ble k 0) 8 3) (cond (Nat.ble k 2) 0 (cond (Nat.ble k 3) 0 0)))) (fun _ => 0)) (cond (Nat.ble a 67) (fun k => (cond (Nat.ble k 1) (cond (Nat.ble k 0) 7 2) (cond (Nat.ble k 2) 0 (cond (Nat.ble k 3) 0 0)))) (fun _ => 0)))) (cond (Nat.ble a 81) (cond (Nat.ble a 72) (cond (Nat.ble a 69) (fun k => (cond (Nat.ble k 1) (cond (Nat.ble k 0) 12 3) (cond (Nat.ble k 2) 0 (cond (Nat.ble k 3) 0 0)))) (fun _ => 0)) (cond (Nat.ble a 73) (fun k => (cond (Nat.ble k 1) (cond (Nat.ble k 0) 8 8) (cond (Nat.ble k 2) 0 (cond (Nat.ble k 3) 0 0)))) (fun _ => 0))) (cond (Nat.ble a 83) (cond (Nat.ble a 82) (fun k => (cond (Nat.ble k 1) (cond (Nat.ble k 0) 8 12) (cond (Nat.ble k 2) 0 (cond (Nat.ble k 3) 0 0)))) (fun _ => 0)) (cond (Nat.ble a 84) (fun k => (cond (Nat.ble k 1) (cond (Nat.ble k 0) 8 12) (cond (Nat.ble k 2) 0 (cond (Nat.ble k 3) 0 0)))) (fun _ => 0)))))))
def ow_tx (t : Nat) : String := match t with
  | 1 => "a number that the call does not take"
  | 2 => "cloud"
  | 3 => "field"
  | 4 => "flood"
  | 5 => "glacier"
  | 6 => "hail"
  | 7 => "hold"
  | 8 => "join"
  | 9 => "no such bid"
  | 10 => "no such cloud"
  | 11 => "no such field"
  | 12 => "rate"
  | 13 => "seen"
  | 14 => "sky"
  | _ => "wind"
def ow_ch (t : Nat) : List Nat := match t with
  | 1 => [97, 32, 110, 117, 109, 98, 101, 114, 32, 116, 104, 97, 116, 32, 116, 104, 101, 32, 99, 97, 108, 108, 32, 100, 111, 101, 115, 32, 110, 111, 116, 32, 116, 97, 107, 101]
  | 2 => [99, 108, 111, 117, 100]
  | 3 => [102, 105, 101, 108, 100]
  | 4 => [102, 108, 111, 111, 100]
  | 5 => [103, 108, 97, 99, 105, 101, 114]
  | 6 => [104, 97, 105, 108]
  | 7 => [104, 111, 108, 100]
  | 8 => [106, 111, 105, 110]
  | 9 => [110, 111, 32, 115, 117, 99, 104, 32, 98, 105, 100]
  | 10 => [110, 111, 32, 115, 117, 99, 104, 32, 99, 108, 111, 117, 100]
  | 11 => [110, 111, 32, 115, 117, 99, 104, 32, 102, 105, 101, 108, 100]
  | 12 => [114, 97, 116, 101]
  | 13 => [115, 101, 101, 110]
  | 14 => [115, 107, 121]
  | _ => [119, 105, 110, 100]
def ow_strs : List (Nat × Nat × Nat) := [(10, 233, 9), (10, 293, 1), (10, 298, 10), (10, 301, 11), (7, 115, 14), (7, 117, 15), (7, 119, 2), (7, 121, 13), (7, 123, 3), (7, 125, 5), (7, 127, 8), (7, 129, 12), (7, 131, 7), (7, 133, 6), (7, 135, 4)]
def ow_sl : List Nat := [36, 5, 5, 5, 7, 4, 4, 4, 11, 13, 13, 4, 4, 3, 4]
def ow_sb : List (List Int32) := [[97, 32, 110, 117, 109, 98, 101, 114, 32, 116, 104, 97, 116, 32, 116, 104, 101, 32, 99, 97, 108, 108, 32, 100, 111, 101, 115, 32, 110, 111, 116, 32, 116, 97, 107, 101], [99, 108, 111, 117, 100], [102, 105, 101, 108, 100], [102, 108, 111, 111, 100], [103, 108, 97, 99, 105, 101, 114], [104, 97, 105, 108], [104, 111, 108, 100], [106, 111, 105, 110], [110, 111, 32, 115, 117, 99, 104, 32, 98, 105, 100], [110, 111, 32, 115, 117, 99, 104, 32, 99, 108, 111, 117, 100], [110, 111, 32, 115, 117, 99, 104, 32, 102, 105, 101, 108, 100], [114, 97, 116, 101], [115, 101, 101, 110], [115, 107, 121], [119, 105, 110, 100]]
abbrev m_OC_init : Nat := 0
abbrev m_OC_feed : Nat := 1
abbrev m_OC_sky : Nat := 2
abbrev m_OC_fault : Nat := 3
abbrev m_OC_told : Nat := 4
abbrev m_OC_owner : Nat := 5
abbrev m_OC_path : Nat := 6
abbrev m_OC_field : Nat := 7
abbrev m_OC_order : Nat := 8
abbrev m_OC_clear : Nat := 9
abbrev m_OC_day : Nat := 10
abbrev m_OC_cloud : Nat := 11
abbrev m_OC_part : Nat := 12
abbrev m_OC_account : Nat := 13
abbrev m_OC_farmer : Nat := 14
abbrev m_OC_after : Nat := 15
abbrev m_OC_worth : Nat := 16
abbrev m_OC_share : Nat := 17
abbrev m_OC_bid : Nat := 18
abbrev m_OC_forget : Nat := 19
abbrev m_OC_gets : Nat := 20
abbrev m_OC_settled : Nat := 21
abbrev m_OC_drought : Nat := 22
abbrev m_OC_gauge : Nat := 23
abbrev m_OC_away : Nat := 24
abbrev m_OC_explain : Nat := 25
abbrev m_OC_doubt : Nat := 26
abbrev m_OC_worst : Nat := 27
abbrev m_OC_image : Nat := 28
abbrev m_OC_restore : Nat := 29
abbrev m_OC_count : Nat := 30
abbrev m_OC_putNumber : Nat := 31
abbrev m_OC_need : Nat := 32
abbrev m_OC_needCloud : Nat := 33
abbrev m_OC_needField : Nat := 34
abbrev m_OC_isHour : Nat := 35
abbrev m_OC_isOwner : Nat := 36
abbrev m_OC_isFarmer : Nat := 37
abbrev m_OC_isWater : Nat := 38
abbrev m_OC_isEither : Nat := 39
abbrev m_OC_cellOf : Nat := 40
abbrev m_OC_placeOf : Nat := 41
abbrev m_Mo_init : Nat := 42
abbrev m_Mo_tellsNothing : Nat := 43
abbrev m_Mo_thrown : Nat := 44
abbrev m_Mo_bad : Nat := 45
abbrev m_Mo_in : Nat := 46
abbrev m_Mo_feed : Nat := 47
abbrev m_Mo_byteAt : Nat := 48
abbrev m_Mo_blanks : Nat := 49
abbrev m_Mo_wrong : Nat := 50
abbrev m_Mo_isDigit : Nat := 51
abbrev m_Mo_number : Nat := 52
abbrev m_Mo_wordHere : Nat := 53
abbrev m_Mo_five : Nat := 54
abbrev m_Mo_isWord : Nat := 55
abbrev m_Mo_closes : Nat := 56
abbrev m_Mo_kindHere : Nat := 57
abbrev m_Mo_mostOf : Nat := 58
abbrev m_Mo_clause : Nat := 59
abbrev m_Mo_readsCloud : Nat := 60
abbrev m_Mo_readsField : Nat := 61
abbrev m_Mo_readsIce : Nat := 62
abbrev m_Mo_readsSeen : Nat := 63
abbrev m_Mo_sky : Nat := 64
abbrev m_Mo_fault : Nat := 65
abbrev m_Mo_told : Nat := 66
abbrev m_Mo_isCloud : Nat := 67
abbrev m_Mo_owner : Nat := 68
abbrev m_Mo_isHour : Nat := 69
abbrev m_Mo_windOf : Nat := 70
abbrev m_Mo_blows : Nat := 71
abbrev m_Mo_isIn : Nat := 72
abbrev m_Mo_laysAlone : Nat := 73
abbrev m_Mo_path : Nat := 74
abbrev m_Mo_isField : Nat := 75
abbrev m_Mo_field : Nat := 76
abbrev m_Mo_order : Nat := 77
abbrev m_Mo_clear : Nat := 78
abbrev m_Mo_sum : Nat := 79
abbrev m_Mo_mostOf8 : Nat := 80
abbrev m_Mo_begins : Nat := 81
abbrev m_Mo_moves : Nat := 82
abbrev m_Mo_joinsAll : Nat := 83
abbrev m_Mo_joinsTo : Nat := 84
abbrev m_Mo_cell : Nat := 85
abbrev m_Mo_falls : Nat := 86
abbrev m_Mo_isKept : Nat := 87
abbrev m_Mo_draws : Nat := 88
abbrev m_Mo_rains : Nat := 89
abbrev m_Mo_fieldAt : Nat := 90
abbrev m_Mo_iceAt : Nat := 91
abbrev m_Mo_lands : Nat := 92
abbrev m_Mo_hourGoes : Nat := 93
abbrev m_Mo_goes : Nat := 94
abbrev m_Mo_day : Nat := 95
abbrev m_Mo_cloud : Nat := 96
abbrev m_Mo_part : Nat := 97
abbrev m_Mo_account : Nat := 98
abbrev m_Mo_farmer : Nat := 99
abbrev m_Mo_after : Nat := 100
abbrev m_Mo_laysCan : Nat := 101
abbrev m_Mo_gives : Nat := 102
abbrev m_Mo_worthOf : Nat := 103
abbrev m_Mo_worth : Nat := 104
abbrev m_Mo_factorial : Nat := 105
abbrev m_Mo_ones : Nat := 106
abbrev m_Mo_share : Nat := 107
abbrev m_Mo_bid : Nat := 108
abbrev m_Mo_forget : Nat := 109
abbrev m_Mo_settles : Nat := 110
abbrev m_Mo_isWater : Nat := 111
abbrev m_Mo_gets : Nat := 112
abbrev m_Mo_settled : Nat := 113
abbrev m_Mo_drought : Nat := 114
abbrev m_Mo_gauge : Nat := 115
abbrev m_Mo_away : Nat := 116
abbrev m_Mo_explains : Nat := 117
abbrev m_Mo_falling : Nat := 118
abbrev m_Mo_explain : Nat := 119
abbrev m_Mo_couldBe : Nat := 120
abbrev m_Mo_doubt : Nat := 121
abbrev m_Mo_worst : Nat := 122
abbrev m_Mo_keeps : Nat := 123
abbrev m_Mo_keepsAll : Nat := 124
abbrev m_Mo_image : Nat := 125
abbrev m_Mo_restore : Nat := 126
abbrev m_Mo_count : Nat := 127
abbrev m_Book_init : Nat := 128
abbrev m_Book_wipe : Nat := 129
abbrev m_Book_copyFrom : Nat := 130
abbrev m_Book_isOrder : Nat := 131
abbrev m_Book_giveOrder : Nat := 132
abbrev m_Book_takeBid : Nat := 133
abbrev m_Book_setGauge : Nat := 134
abbrev m_Book_hasGuns : Nat := 135
abbrev m_Day_init : Nat := 136
abbrev m_Day_isThere : Nat := 137
abbrev m_Day_total : Nat := 138
abbrev m_Day_inTheSky : Nat := 139
abbrev m_Day_run : Nat := 140
abbrev m_Day_go : Nat := 141
abbrev m_Day_come : Nat := 142
abbrev m_Day_joinAll : Nat := 143
abbrev m_Day_firstBeside : Nat := 144
abbrev m_Day_join : Nat := 145
abbrev m_Day_giveAll : Nat := 146
abbrev m_Day_earlier : Nat := 147
abbrev m_Day_fuller : Nat := 148
abbrev m_Day_spill : Nat := 149
abbrev m_Day_obey : Nat := 150
abbrev m_Day_wantedBy : Nat := 151
abbrev m_Day_draw : Nat := 152
abbrev m_Day_letFall : Nat := 153
abbrev m_Day_dropFrom : Nat := 154
abbrev m_Ground_init : Nat := 155
abbrev m_Ground_wipe : Nat := 156
abbrev m_Ground_keptByGlaciers : Nat := 157
abbrev m_Ground_takeRain : Nat := 158
abbrev m_Ground_melt : Nat := 159
abbrev m_Ground_keeperOf : Nat := 160
abbrev m_Ground_hail : Nat := 161
abbrev m_Ground_lie : Nat := 162
abbrev m_Ground_soak : Nat := 163
abbrev m_Guess_init : Nat := 164
abbrev m_Guess_ways : Nat := 165
abbrev m_Guess_sure : Nat := 166
abbrev m_Guess_liar : Nat := 167
abbrev m_Guess_guessed : Nat := 168
abbrev m_Guess_search : Nat := 169
abbrev m_Guess_place : Nat := 170
abbrev m_Guess_explainBy : Nat := 171
abbrev m_Guess_passes : Nat := 172
abbrev m_Market_init : Nat := 173
abbrev m_Market_price : Nat := 174
abbrev m_Market_allPay : Nat := 175
abbrev m_Market_serve : Nat := 176
abbrev m_Market_bestLeft : Nat := 177
abbrev m_Market_ration : Nat := 178
abbrev m_Market_driest : Nat := 179
abbrev m_Market_hasLess : Nat := 180
abbrev m_Row_init : Nat := 181
abbrev m_Row_get : Nat := 182
abbrev m_Row_set : Nat := 183
abbrev m_Row_add : Nat := 184
abbrev m_Row_setAll : Nat := 185
abbrev m_Row_copyFrom : Nat := 186
abbrev m_Sky_init : Nat := 187
abbrev m_Sky_wipe : Nat := 188
abbrev m_Sky_copyFrom : Nat := 189
abbrev m_Sky_fact : Nat := 190
abbrev m_Sky_isInside : Nat := 191
abbrev m_Sky_fieldAt : Nat := 192
abbrev m_Sky_glacierAt : Nat := 193
abbrev m_Sky_windAt : Nat := 194
abbrev m_Sky_across : Nat := 195
abbrev m_Sky_down : Nat := 196
abbrev m_Sky_layTrails : Nat := 197
abbrev m_Sky_layTrail : Nat := 198
abbrev m_Sky_hoursIn : Nat := 199
abbrev m_Sky_reach : Nat := 200
abbrev m_Sky_bitOf : Nat := 201
abbrev m_Sky_spread : Nat := 202
abbrev m_Sky_around : Nat := 203
abbrev m_Sky_dearestIn : Nat := 204
abbrev m_SkyReader_init : Nat := 205
abbrev m_SkyReader_draft : Nat := 206
abbrev m_SkyReader_faultPlace : Nat := 207
abbrev m_SkyReader_read : Nat := 208
abbrev m_SkyReader_fail : Nat := 209
abbrev m_SkyReader_readClause : Nat := 210
abbrev m_SkyReader_isTooMany : Nat := 211
abbrev m_SkyReader_readNumbers : Nat := 212
abbrev m_SkyReader_wordAt : Nat := 213
abbrev m_SkyReader_readSize : Nat := 214
abbrev m_SkyReader_readWind : Nat := 215
abbrev m_SkyReader_readCloud : Nat := 216
abbrev m_SkyReader_readSeen : Nat := 217
abbrev m_SkyReader_readField : Nat := 218
abbrev m_SkyReader_readGlacier : Nat := 219
abbrev m_SkyReader_lastX : Nat := 220
abbrev m_SkyReader_lastY : Nat := 221
abbrev m_SkyReader_skipBlanks : Nat := 222
abbrev m_SkyReader_readWord : Nat := 223
abbrev m_SkyReader_isSpelt : Nat := 224
abbrev m_SkyReader_readNumber : Nat := 225
abbrev m_SkyReader_readEnd : Nat := 226
abbrev m_Table_init : Nat := 227
abbrev m_Table_size : Nat := 228
abbrev m_Table_isFull : Nat := 229
abbrev m_Table_get : Nat := 230
abbrev m_Table_set : Nat := 231
abbrev m_Table_add : Nat := 232
abbrev m_Table_open : Nat := 233
abbrev m_Table_sum : Nat := 234
abbrev m_Table_mostIn : Nat := 235
abbrev m_Table_rowAt : Nat := 236
abbrev m_Table_empty : Nat := 237
abbrev m_Table_emptyRow : Nat := 238
abbrev m_Table_copyFrom : Nat := 239
abbrev m_Worth_init : Nat := 240
abbrev m_Worth_above : Nat := 241
abbrev m_Worth_below : Nat := 242
abbrev m_Worth_measure : Nat := 243
abbrev m_Worth_of : Nat := 244
abbrev m_Worth_dearestLeft : Nat := 245
abbrev m_Worth_quench : Nat := 246
abbrev m_Worth_findWater : Nat := 247
abbrev m_Worth_queueServed : Nat := 248
abbrev m_Worth_lead : Nat := 249
abbrev m_Worth_shareOut : Nat := 250
abbrev m_Worth_ordersOf : Nat := 251
abbrev m_Worth_commonOf : Nat := 252
abbrev m_La_sky : Nat := 253
abbrev m_La_told : Nat := 254
abbrev m_La_owner : Nat := 255
abbrev m_La_path : Nat := 256
abbrev m_La_field : Nat := 257
abbrev m_La_order : Nat := 258
abbrev m_La_day : Nat := 259
abbrev m_La_cloud : Nat := 260
abbrev m_La_part : Nat := 261
abbrev m_La_account : Nat := 262
abbrev m_La_farmer : Nat := 263
abbrev m_La_after : Nat := 264
abbrev m_La_worth : Nat := 265
abbrev m_La_share : Nat := 266
abbrev m_La_bid : Nat := 267
abbrev m_La_gets : Nat := 268
abbrev m_La_settled : Nat := 269
abbrev m_La_drought : Nat := 270
abbrev m_La_gauge : Nat := 271
abbrev m_La_explain : Nat := 272
abbrev m_La_doubt : Nat := 273
abbrev m_La_worst : Nat := 274
abbrev m_La_law : Nat := 275
abbrev m_Jint_bitCount : Nat := 276
def ow_e0 : MethodName × ByteArray × Nat × Option FieldType := (⟨"OwnedClouds", "<init>", "()V"⟩, prog_1_method_1_code, 2, none)
def ow_e1 : MethodName × ByteArray × Nat × Option FieldType := (⟨"OwnedClouds", "feed", "(IIIII)I"⟩, prog_1_method_2_code, 6, some .int)
def ow_e2 : MethodName × ByteArray × Nat × Option FieldType := (⟨"OwnedClouds", "sky", "(I)I"⟩, prog_1_method_3_code, 3, some .int)
def ow_e3 : MethodName × ByteArray × Nat × Option FieldType := (⟨"OwnedClouds", "fault", "()I"⟩, prog_1_method_4_code, 1, some .int)
def ow_e4 : MethodName × ByteArray × Nat × Option FieldType := (⟨"OwnedClouds", "told", "(I)I"⟩, prog_1_method_5_code, 2, some .int)
def ow_e5 : MethodName × ByteArray × Nat × Option FieldType := (⟨"OwnedClouds", "owner", "(I)I"⟩, prog_1_method_6_code, 2, some .int)
def ow_e6 : MethodName × ByteArray × Nat × Option FieldType := (⟨"OwnedClouds", "path", "(II)I"⟩, prog_1_method_7_code, 3, some .int)
def ow_e7 : MethodName × ByteArray × Nat × Option FieldType := (⟨"OwnedClouds", "field", "(II)I"⟩, prog_1_method_8_code, 3, some .int)
def ow_e8 : MethodName × ByteArray × Nat × Option FieldType := (⟨"OwnedClouds", "order", "(IIII)I"⟩, prog_1_method_9_code, 5, some .int)
def ow_e9 : MethodName × ByteArray × Nat × Option FieldType := (⟨"OwnedClouds", "clear", "()I"⟩, prog_1_method_10_code, 2, some .int)
def ow_e10 : MethodName × ByteArray × Nat × Option FieldType := (⟨"OwnedClouds", "day", "(II)I"⟩, prog_1_method_11_code, 3, some .int)
def ow_e11 : MethodName × ByteArray × Nat × Option FieldType := (⟨"OwnedClouds", "cloud", "(IIII)I"⟩, prog_1_method_12_code, 5, some .int)
def ow_e12 : MethodName × ByteArray × Nat × Option FieldType := (⟨"OwnedClouds", "part", "(IIII)I"⟩, prog_1_method_13_code, 5, some .int)
def ow_e13 : MethodName × ByteArray × Nat × Option FieldType := (⟨"OwnedClouds", "account", "(III)I"⟩, prog_1_method_14_code, 4, some .int)
def ow_e14 : MethodName × ByteArray × Nat × Option FieldType := (⟨"OwnedClouds", "farmer", "(III)I"⟩, prog_1_method_15_code, 4, some .int)
def ow_e15 : MethodName × ByteArray × Nat × Option FieldType := (⟨"OwnedClouds", "after", "(III)I"⟩, prog_1_method_16_code, 4, some .int)
def ow_e16 : MethodName × ByteArray × Nat × Option FieldType := (⟨"OwnedClouds", "worth", "(I)I"⟩, prog_1_method_17_code, 2, some .int)
def ow_e17 : MethodName × ByteArray × Nat × Option FieldType := (⟨"OwnedClouds", "share", "(II)J"⟩, prog_1_method_18_code, 3, some .long)
def ow_e18 : MethodName × ByteArray × Nat × Option FieldType := (⟨"OwnedClouds", "bid", "(III)I"⟩, prog_1_method_19_code, 4, some .int)
def ow_e19 : MethodName × ByteArray × Nat × Option FieldType := (⟨"OwnedClouds", "forget", "()I"⟩, prog_1_method_20_code, 2, some .int)
def ow_e20 : MethodName × ByteArray × Nat × Option FieldType := (⟨"OwnedClouds", "gets", "(II)I"⟩, prog_1_method_21_code, 3, some .int)
def ow_e21 : MethodName × ByteArray × Nat × Option FieldType := (⟨"OwnedClouds", "settled", "(II)I"⟩, prog_1_method_22_code, 3, some .int)
def ow_e22 : MethodName × ByteArray × Nat × Option FieldType := (⟨"OwnedClouds", "drought", "(II)I"⟩, prog_1_method_23_code, 3, some .int)
def ow_e23 : MethodName × ByteArray × Nat × Option FieldType := (⟨"OwnedClouds", "gauge", "(III)I"⟩, prog_1_method_24_code, 4, some .int)
def ow_e24 : MethodName × ByteArray × Nat × Option FieldType := (⟨"OwnedClouds", "away", "()I"⟩, prog_1_method_25_code, 2, some .int)
def ow_e25 : MethodName × ByteArray × Nat × Option FieldType := (⟨"OwnedClouds", "explain", "(I)I"⟩, prog_1_method_26_code, 2, some .int)
def ow_e26 : MethodName × ByteArray × Nat × Option FieldType := (⟨"OwnedClouds", "doubt", "(II)J"⟩, prog_1_method_27_code, 3, some .long)
def ow_e27 : MethodName × ByteArray × Nat × Option FieldType := (⟨"OwnedClouds", "worst", "(II)I"⟩, prog_1_method_28_code, 3, some .int)
def ow_e28 : MethodName × ByteArray × Nat × Option FieldType := (⟨"OwnedClouds", "image", "()I"⟩, prog_1_method_29_code, 2, some .int)
def ow_e29 : MethodName × ByteArray × Nat × Option FieldType := (⟨"OwnedClouds", "restore", "()I"⟩, prog_1_method_30_code, 3, some .int)
def ow_e30 : MethodName × ByteArray × Nat × Option FieldType := (⟨"OwnedClouds", "count", "(I)I"⟩, prog_1_method_31_code, 2, some .int)
def ow_e31 : MethodName × ByteArray × Nat × Option FieldType := (⟨"OwnedClouds", "putNumber", "(I)V"⟩, prog_1_method_32_code, 3, none)
def ow_e32 : MethodName × ByteArray × Nat × Option FieldType := (⟨"OwnedClouds", "need", "(Z)V"⟩, prog_1_method_33_code, 1, none)
def ow_e33 : MethodName × ByteArray × Nat × Option FieldType := (⟨"OwnedClouds", "needCloud", "(I)V"⟩, prog_1_method_34_code, 2, none)
def ow_e34 : MethodName × ByteArray × Nat × Option FieldType := (⟨"OwnedClouds", "needField", "(I)V"⟩, prog_1_method_35_code, 2, none)
def ow_e35 : MethodName × ByteArray × Nat × Option FieldType := (⟨"OwnedClouds", "isHour", "(I)Z"⟩, prog_1_method_36_code, 1, some .boolean)
def ow_e36 : MethodName × ByteArray × Nat × Option FieldType := (⟨"OwnedClouds", "isOwner", "(I)Z"⟩, prog_1_method_37_code, 1, some .boolean)
def ow_e37 : MethodName × ByteArray × Nat × Option FieldType := (⟨"OwnedClouds", "isFarmer", "(I)Z"⟩, prog_1_method_38_code, 1, some .boolean)
def ow_e38 : MethodName × ByteArray × Nat × Option FieldType := (⟨"OwnedClouds", "isWater", "(I)Z"⟩, prog_1_method_39_code, 1, some .boolean)
def ow_e39 : MethodName × ByteArray × Nat × Option FieldType := (⟨"OwnedClouds", "isEither", "(I)Z"⟩, prog_1_method_40_code, 1, some .boolean)
def ow_e40 : MethodName × ByteArray × Nat × Option FieldType := (⟨"OwnedClouds", "cellOf", "(II)I"⟩, prog_1_method_41_code, 2, some .int)
def ow_e41 : MethodName × ByteArray × Nat × Option FieldType := (⟨"OwnedClouds", "placeOf", "(I)I"⟩, prog_1_method_42_code, 1, some .int)
def ow_e42 : MethodName × ByteArray × Nat × Option FieldType := (⟨"OwnedCloudsModel", "<init>", "()V"⟩, prog_13_method_1_code, 2, none)
def ow_e43 : MethodName × ByteArray × Nat × Option FieldType := (⟨"OwnedCloudsModel", "tellsNothing", "()V"⟩, prog_13_method_2_code, 2, none)
def ow_e44 : MethodName × ByteArray × Nat × Option FieldType := (⟨"OwnedCloudsModel", "thrown", "()I"⟩, prog_13_method_3_code, 1, some .int)
def ow_e45 : MethodName × ByteArray × Nat × Option FieldType := (⟨"OwnedCloudsModel", "bad", "(ZI)Z"⟩, prog_13_method_4_code, 3, some .boolean)
def ow_e46 : MethodName × ByteArray × Nat × Option FieldType := (⟨"OwnedCloudsModel", "in", "(III)Z"⟩, prog_13_method_5_code, 3, some .boolean)
def ow_e47 : MethodName × ByteArray × Nat × Option FieldType := (⟨"OwnedCloudsModel", "feed", "(IIIII)I"⟩, prog_13_method_6_code, 8, some .int)
def ow_e48 : MethodName × ByteArray × Nat × Option FieldType := (⟨"OwnedCloudsModel", "byteAt", "(I)I"⟩, prog_13_method_7_code, 2, some .int)
def ow_e49 : MethodName × ByteArray × Nat × Option FieldType := (⟨"OwnedCloudsModel", "blanks", "()V"⟩, prog_13_method_8_code, 1, none)
def ow_e50 : MethodName × ByteArray × Nat × Option FieldType := (⟨"OwnedCloudsModel", "wrong", "(II)V"⟩, prog_13_method_9_code, 3, none)
def ow_e51 : MethodName × ByteArray × Nat × Option FieldType := (⟨"OwnedCloudsModel", "isDigit", "(I)Z"⟩, prog_13_method_10_code, 1, some .boolean)
def ow_e52 : MethodName × ByteArray × Nat × Option FieldType := (⟨"OwnedCloudsModel", "number", "(II)I"⟩, prog_13_method_11_code, 5, some .int)
def ow_e53 : MethodName × ByteArray × Nat × Option FieldType := (⟨"OwnedCloudsModel", "wordHere", "()J"⟩, prog_13_method_12_code, 4, some .long)
def ow_e54 : MethodName × ByteArray × Nat × Option FieldType := (⟨"OwnedCloudsModel", "five", "(IIIII)J"⟩, prog_13_method_13_code, 7, some .long)
def ow_e55 : MethodName × ByteArray × Nat × Option FieldType := (⟨"OwnedCloudsModel", "isWord", "(J)Z"⟩, prog_13_method_14_code, 3, some .boolean)
def ow_e56 : MethodName × ByteArray × Nat × Option FieldType := (⟨"OwnedCloudsModel", "closes", "()V"⟩, prog_13_method_15_code, 1, none)
def ow_e57 : MethodName × ByteArray × Nat × Option FieldType := (⟨"OwnedCloudsModel", "kindHere", "()I"⟩, prog_13_method_16_code, 1, some .int)
def ow_e58 : MethodName × ByteArray × Nat × Option FieldType := (⟨"OwnedCloudsModel", "mostOf", "(I)I"⟩, prog_13_method_17_code, 1, some .int)
def ow_e59 : MethodName × ByteArray × Nat × Option FieldType := (⟨"OwnedCloudsModel", "clause", "()V"⟩, prog_13_method_18_code, 6, none)
def ow_e60 : MethodName × ByteArray × Nat × Option FieldType := (⟨"OwnedCloudsModel", "readsCloud", "([III)V"⟩, prog_13_method_19_code, 4, none)
def ow_e61 : MethodName × ByteArray × Nat × Option FieldType := (⟨"OwnedCloudsModel", "readsField", "([III)V"⟩, prog_13_method_20_code, 6, none)
def ow_e62 : MethodName × ByteArray × Nat × Option FieldType := (⟨"OwnedCloudsModel", "readsIce", "([III)V"⟩, prog_13_method_21_code, 6, none)
def ow_e63 : MethodName × ByteArray × Nat × Option FieldType := (⟨"OwnedCloudsModel", "readsSeen", "()V"⟩, prog_13_method_22_code, 4, none)
def ow_e64 : MethodName × ByteArray × Nat × Option FieldType := (⟨"OwnedCloudsModel", "sky", "(I)I"⟩, prog_13_method_23_code, 4, some .int)
def ow_e65 : MethodName × ByteArray × Nat × Option FieldType := (⟨"OwnedCloudsModel", "fault", "()I"⟩, prog_13_method_24_code, 1, some .int)
def ow_e66 : MethodName × ByteArray × Nat × Option FieldType := (⟨"OwnedCloudsModel", "told", "(I)I"⟩, prog_13_method_25_code, 2, some .int)
def ow_e67 : MethodName × ByteArray × Nat × Option FieldType := (⟨"OwnedCloudsModel", "isCloud", "(I)Z"⟩, prog_13_method_26_code, 2, some .boolean)
def ow_e68 : MethodName × ByteArray × Nat × Option FieldType := (⟨"OwnedCloudsModel", "owner", "(I)I"⟩, prog_13_method_27_code, 2, some .int)
def ow_e69 : MethodName × ByteArray × Nat × Option FieldType := (⟨"OwnedCloudsModel", "isHour", "(I)Z"⟩, prog_13_method_28_code, 1, some .boolean)
def ow_e70 : MethodName × ByteArray × Nat × Option FieldType := (⟨"OwnedCloudsModel", "windOf", "(II)I"⟩, prog_13_method_29_code, 5, some .int)
def ow_e71 : MethodName × ByteArray × Nat × Option FieldType := (⟨"OwnedCloudsModel", "blows", "(III)I"⟩, prog_13_method_30_code, 5, some .int)
def ow_e72 : MethodName × ByteArray × Nat × Option FieldType := (⟨"OwnedCloudsModel", "isIn", "(II)Z"⟩, prog_13_method_31_code, 3, some .boolean)
def ow_e73 : MethodName × ByteArray × Nat × Option FieldType := (⟨"OwnedCloudsModel", "laysAlone", "(I)V"⟩, prog_13_method_32_code, 6, none)
def ow_e74 : MethodName × ByteArray × Nat × Option FieldType := (⟨"OwnedCloudsModel", "path", "(II)I"⟩, prog_13_method_33_code, 3, some .int)
def ow_e75 : MethodName × ByteArray × Nat × Option FieldType := (⟨"OwnedCloudsModel", "isField", "(I)Z"⟩, prog_13_method_34_code, 2, some .boolean)
def ow_e76 : MethodName × ByteArray × Nat × Option FieldType := (⟨"OwnedCloudsModel", "field", "(II)I"⟩, prog_13_method_35_code, 3, some .int)
def ow_e77 : MethodName × ByteArray × Nat × Option FieldType := (⟨"OwnedCloudsModel", "order", "(IIII)I"⟩, prog_13_method_36_code, 5, some .int)
def ow_e78 : MethodName × ByteArray × Nat × Option FieldType := (⟨"OwnedCloudsModel", "clear", "()I"⟩, prog_13_method_37_code, 2, some .int)
def ow_e79 : MethodName × ByteArray × Nat × Option FieldType := (⟨"OwnedCloudsModel", "sum", "([I)I"⟩, prog_13_method_38_code, 3, some .int)
def ow_e80 : MethodName × ByteArray × Nat × Option FieldType := (⟨"OwnedCloudsModel", "mostOf8", "([I)I"⟩, prog_13_method_39_code, 3, some .int)
def ow_e81 : MethodName × ByteArray × Nat × Option FieldType := (⟨"OwnedCloudsModel", "begins", "(I)V"⟩, prog_13_method_40_code, 4, none)
def ow_e82 : MethodName × ByteArray × Nat × Option FieldType := (⟨"OwnedCloudsModel", "moves", "(I)V"⟩, prog_13_method_41_code, 4, none)
def ow_e83 : MethodName × ByteArray × Nat × Option FieldType := (⟨"OwnedCloudsModel", "joinsAll", "()V"⟩, prog_13_method_42_code, 3, none)
def ow_e84 : MethodName × ByteArray × Nat × Option FieldType := (⟨"OwnedCloudsModel", "joinsTo", "(II)V"⟩, prog_13_method_43_code, 6, none)
def ow_e85 : MethodName × ByteArray × Nat × Option FieldType := (⟨"OwnedCloudsModel", "cell", "(II)I"⟩, prog_13_method_44_code, 3, some .int)
def ow_e86 : MethodName × ByteArray × Nat × Option FieldType := (⟨"OwnedCloudsModel", "falls", "(II)V"⟩, prog_13_method_45_code, 7, none)
def ow_e87 : MethodName × ByteArray × Nat × Option FieldType := (⟨"OwnedCloudsModel", "isKept", "(II)Z"⟩, prog_13_method_46_code, 4, some .boolean)
def ow_e88 : MethodName × ByteArray × Nat × Option FieldType := (⟨"OwnedCloudsModel", "draws", "(I)Z"⟩, prog_13_method_47_code, 2, some .boolean)
def ow_e89 : MethodName × ByteArray × Nat × Option FieldType := (⟨"OwnedCloudsModel", "rains", "(I)V"⟩, prog_13_method_48_code, 5, none)
def ow_e90 : MethodName × ByteArray × Nat × Option FieldType := (⟨"OwnedCloudsModel", "fieldAt", "(II)I"⟩, prog_13_method_49_code, 4, some .int)
def ow_e91 : MethodName × ByteArray × Nat × Option FieldType := (⟨"OwnedCloudsModel", "iceAt", "(II)I"⟩, prog_13_method_50_code, 4, some .int)
def ow_e92 : MethodName × ByteArray × Nat × Option FieldType := (⟨"OwnedCloudsModel", "lands", "(II[IIZ)V"⟩, prog_13_method_51_code, 12, none)
def ow_e93 : MethodName × ByteArray × Nat × Option FieldType := (⟨"OwnedCloudsModel", "hourGoes", "(I)V"⟩, prog_13_method_52_code, 5, none)
def ow_e94 : MethodName × ByteArray × Nat × Option FieldType := (⟨"OwnedCloudsModel", "goes", "(II)V"⟩, prog_13_method_53_code, 4, none)
def ow_e95 : MethodName × ByteArray × Nat × Option FieldType := (⟨"OwnedCloudsModel", "day", "(II)I"⟩, prog_13_method_54_code, 6, some .int)
def ow_e96 : MethodName × ByteArray × Nat × Option FieldType := (⟨"OwnedCloudsModel", "cloud", "(IIII)I"⟩, prog_13_method_55_code, 5, some .int)
def ow_e97 : MethodName × ByteArray × Nat × Option FieldType := (⟨"OwnedCloudsModel", "part", "(IIII)I"⟩, prog_13_method_56_code, 5, some .int)
def ow_e98 : MethodName × ByteArray × Nat × Option FieldType := (⟨"OwnedCloudsModel", "account", "(III)I"⟩, prog_13_method_57_code, 4, some .int)
def ow_e99 : MethodName × ByteArray × Nat × Option FieldType := (⟨"OwnedCloudsModel", "farmer", "(III)I"⟩, prog_13_method_58_code, 4, some .int)
def ow_e100 : MethodName × ByteArray × Nat × Option FieldType := (⟨"OwnedCloudsModel", "after", "(III)I"⟩, prog_13_method_59_code, 4, some .int)
def ow_e101 : MethodName × ByteArray × Nat × Option FieldType := (⟨"OwnedCloudsModel", "laysCan", "()V"⟩, prog_13_method_60_code, 4, none)
def ow_e102 : MethodName × ByteArray × Nat × Option FieldType := (⟨"OwnedCloudsModel", "gives", "(II)Z"⟩, prog_13_method_61_code, 5, some .boolean)
def ow_e103 : MethodName × ByteArray × Nat × Option FieldType := (⟨"OwnedCloudsModel", "worthOf", "(I)I"⟩, prog_13_method_62_code, 8, some .int)
def ow_e104 : MethodName × ByteArray × Nat × Option FieldType := (⟨"OwnedCloudsModel", "worth", "(I)I"⟩, prog_13_method_63_code, 2, some .int)
def ow_e105 : MethodName × ByteArray × Nat × Option FieldType := (⟨"OwnedCloudsModel", "factorial", "(I)J"⟩, prog_13_method_64_code, 4, some .long)
def ow_e106 : MethodName × ByteArray × Nat × Option FieldType := (⟨"OwnedCloudsModel", "ones", "(I)I"⟩, prog_13_method_65_code, 3, some .int)
def ow_e107 : MethodName × ByteArray × Nat × Option FieldType := (⟨"OwnedCloudsModel", "share", "(II)J"⟩, prog_13_method_66_code, 14, some .long)
def ow_e108 : MethodName × ByteArray × Nat × Option FieldType := (⟨"OwnedCloudsModel", "bid", "(III)I"⟩, prog_13_method_67_code, 4, some .int)
def ow_e109 : MethodName × ByteArray × Nat × Option FieldType := (⟨"OwnedCloudsModel", "forget", "()I"⟩, prog_13_method_68_code, 2, some .int)
def ow_e110 : MethodName × ByteArray × Nat × Option FieldType := (⟨"OwnedCloudsModel", "settles", "(I)I"⟩, prog_13_method_69_code, 6, some .int)
def ow_e111 : MethodName × ByteArray × Nat × Option FieldType := (⟨"OwnedCloudsModel", "isWater", "(I)Z"⟩, prog_13_method_70_code, 1, some .boolean)
def ow_e112 : MethodName × ByteArray × Nat × Option FieldType := (⟨"OwnedCloudsModel", "gets", "(II)I"⟩, prog_13_method_71_code, 3, some .int)
def ow_e113 : MethodName × ByteArray × Nat × Option FieldType := (⟨"OwnedCloudsModel", "settled", "(II)I"⟩, prog_13_method_72_code, 6, some .int)
def ow_e114 : MethodName × ByteArray × Nat × Option FieldType := (⟨"OwnedCloudsModel", "drought", "(II)I"⟩, prog_13_method_73_code, 7, some .int)
def ow_e115 : MethodName × ByteArray × Nat × Option FieldType := (⟨"OwnedCloudsModel", "gauge", "(III)I"⟩, prog_13_method_74_code, 5, some .int)
def ow_e116 : MethodName × ByteArray × Nat × Option FieldType := (⟨"OwnedCloudsModel", "away", "()I"⟩, prog_13_method_75_code, 2, some .int)
def ow_e117 : MethodName × ByteArray × Nat × Option FieldType := (⟨"OwnedCloudsModel", "explains", "(I)V"⟩, prog_13_method_76_code, 5, none)
def ow_e118 : MethodName × ByteArray × Nat × Option FieldType := (⟨"OwnedCloudsModel", "falling", "(II)V"⟩, prog_13_method_77_code, 4, none)
def ow_e119 : MethodName × ByteArray × Nat × Option FieldType := (⟨"OwnedCloudsModel", "explain", "(I)I"⟩, prog_13_method_78_code, 4, some .int)
def ow_e120 : MethodName × ByteArray × Nat × Option FieldType := (⟨"OwnedCloudsModel", "couldBe", "(II)J"⟩, prog_13_method_79_code, 14, some .long)
def ow_e121 : MethodName × ByteArray × Nat × Option FieldType := (⟨"OwnedCloudsModel", "doubt", "(II)J"⟩, prog_13_method_80_code, 3, some .long)
def ow_e122 : MethodName × ByteArray × Nat × Option FieldType := (⟨"OwnedCloudsModel", "worst", "(II)I"⟩, prog_13_method_81_code, 7, some .int)
def ow_e123 : MethodName × ByteArray × Nat × Option FieldType := (⟨"OwnedCloudsModel", "keeps", "([IIZ)I"⟩, prog_13_method_82_code, 4, some .int)
def ow_e124 : MethodName × ByteArray × Nat × Option FieldType := (⟨"OwnedCloudsModel", "keepsAll", "([IZ)V"⟩, prog_13_method_83_code, 5, none)
def ow_e125 : MethodName × ByteArray × Nat × Option FieldType := (⟨"OwnedCloudsModel", "image", "()I"⟩, prog_13_method_84_code, 1, some .int)
def ow_e126 : MethodName × ByteArray × Nat × Option FieldType := (⟨"OwnedCloudsModel", "restore", "()I"⟩, prog_13_method_85_code, 1, some .int)
def ow_e127 : MethodName × ByteArray × Nat × Option FieldType := (⟨"OwnedCloudsModel", "count", "(I)I"⟩, prog_13_method_86_code, 2, some .int)
def ow_e128 : MethodName × ByteArray × Nat × Option FieldType := (⟨"OwnedClouds$Book", "<init>", "()V"⟩, prog_2_method_1_code, 1, none)
def ow_e129 : MethodName × ByteArray × Nat × Option FieldType := (⟨"OwnedClouds$Book", "wipe", "()V"⟩, prog_2_method_2_code, 1, none)
def ow_e130 : MethodName × ByteArray × Nat × Option FieldType := (⟨"OwnedClouds$Book", "copyFrom", "(LOwnedClouds$Book;)V"⟩, prog_2_method_3_code, 2, none)
def ow_e131 : MethodName × ByteArray × Nat × Option FieldType := (⟨"OwnedClouds$Book", "isOrder", "(II)Z"⟩, prog_2_method_4_code, 2, some .boolean)
def ow_e132 : MethodName × ByteArray × Nat × Option FieldType := (⟨"OwnedClouds$Book", "giveOrder", "(IIII)I"⟩, prog_2_method_5_code, 6, some .int)
def ow_e133 : MethodName × ByteArray × Nat × Option FieldType := (⟨"OwnedClouds$Book", "takeBid", "(III)I"⟩, prog_2_method_6_code, 5, some .int)
def ow_e134 : MethodName × ByteArray × Nat × Option FieldType := (⟨"OwnedClouds$Book", "setGauge", "(III)I"⟩, prog_2_method_7_code, 5, some .int)
def ow_e135 : MethodName × ByteArray × Nat × Option FieldType := (⟨"OwnedClouds$Book", "hasGuns", "(II)Z"⟩, prog_2_method_8_code, 5, some .boolean)
def ow_e136 : MethodName × ByteArray × Nat × Option FieldType := (⟨"OwnedClouds$Day", "<init>", "(LOwnedClouds$Sky;LOwnedClouds$Book;)V"⟩, prog_3_method_1_code, 3, none)
def ow_e137 : MethodName × ByteArray × Nat × Option FieldType := (⟨"OwnedClouds$Day", "isThere", "(I)Z"⟩, prog_3_method_2_code, 2, some .boolean)
def ow_e138 : MethodName × ByteArray × Nat × Option FieldType := (⟨"OwnedClouds$Day", "total", "(I)I"⟩, prog_3_method_3_code, 2, some .int)
def ow_e139 : MethodName × ByteArray × Nat × Option FieldType := (⟨"OwnedClouds$Day", "inTheSky", "()I"⟩, prog_3_method_4_code, 3, some .int)
def ow_e140 : MethodName × ByteArray × Nat × Option FieldType := (⟨"OwnedClouds$Day", "run", "(II)V"⟩, prog_3_method_5_code, 5, none)
def ow_e141 : MethodName × ByteArray × Nat × Option FieldType := (⟨"OwnedClouds$Day", "go", "(I)V"⟩, prog_3_method_6_code, 3, none)
def ow_e142 : MethodName × ByteArray × Nat × Option FieldType := (⟨"OwnedClouds$Day", "come", "(I)V"⟩, prog_3_method_7_code, 3, none)
def ow_e143 : MethodName × ByteArray × Nat × Option FieldType := (⟨"OwnedClouds$Day", "joinAll", "()V"⟩, prog_3_method_8_code, 3, none)
def ow_e144 : MethodName × ByteArray × Nat × Option FieldType := (⟨"OwnedClouds$Day", "firstBeside", "(I)I"⟩, prog_3_method_9_code, 4, some .int)
def ow_e145 : MethodName × ByteArray × Nat × Option FieldType := (⟨"OwnedClouds$Day", "join", "(II)V"⟩, prog_3_method_10_code, 6, none)
def ow_e146 : MethodName × ByteArray × Nat × Option FieldType := (⟨"OwnedClouds$Day", "giveAll", "(II)V"⟩, prog_3_method_11_code, 5, none)
def ow_e147 : MethodName × ByteArray × Nat × Option FieldType := (⟨"OwnedClouds$Day", "earlier", "(II)I"⟩, prog_3_method_12_code, 3, some .int)
def ow_e148 : MethodName × ByteArray × Nat × Option FieldType := (⟨"OwnedClouds$Day", "fuller", "(II)I"⟩, prog_3_method_13_code, 3, some .int)
def ow_e149 : MethodName × ByteArray × Nat × Option FieldType := (⟨"OwnedClouds$Day", "spill", "(I)V"⟩, prog_3_method_14_code, 4, none)
def ow_e150 : MethodName × ByteArray × Nat × Option FieldType := (⟨"OwnedClouds$Day", "obey", "(I)V"⟩, prog_3_method_15_code, 7, none)
def ow_e151 : MethodName × ByteArray × Nat × Option FieldType := (⟨"OwnedClouds$Day", "wantedBy", "(II)I"⟩, prog_3_method_16_code, 3, some .int)
def ow_e152 : MethodName × ByteArray × Nat × Option FieldType := (⟨"OwnedClouds$Day", "draw", "()I"⟩, prog_3_method_17_code, 1, some .int)
def ow_e153 : MethodName × ByteArray × Nat × Option FieldType := (⟨"OwnedClouds$Day", "letFall", "(II)V"⟩, prog_3_method_18_code, 7, none)
def ow_e154 : MethodName × ByteArray × Nat × Option FieldType := (⟨"OwnedClouds$Day", "dropFrom", "(III)V"⟩, prog_3_method_19_code, 4, none)
def ow_e155 : MethodName × ByteArray × Nat × Option FieldType := (⟨"OwnedClouds$Ground", "<init>", "(LOwnedClouds$Sky;)V"⟩, prog_4_method_1_code, 2, none)
def ow_e156 : MethodName × ByteArray × Nat × Option FieldType := (⟨"OwnedClouds$Ground", "wipe", "()V"⟩, prog_4_method_2_code, 2, none)
def ow_e157 : MethodName × ByteArray × Nat × Option FieldType := (⟨"OwnedClouds$Ground", "keptByGlaciers", "()I"⟩, prog_4_method_3_code, 3, some .int)
def ow_e158 : MethodName × ByteArray × Nat × Option FieldType := (⟨"OwnedClouds$Ground", "takeRain", "(II)V"⟩, prog_4_method_4_code, 4, none)
def ow_e159 : MethodName × ByteArray × Nat × Option FieldType := (⟨"OwnedClouds$Ground", "melt", "(I)V"⟩, prog_4_method_5_code, 4, none)
def ow_e160 : MethodName × ByteArray × Nat × Option FieldType := (⟨"OwnedClouds$Ground", "keeperOf", "(II)I"⟩, prog_4_method_6_code, 4, some .int)
def ow_e161 : MethodName × ByteArray × Nat × Option FieldType := (⟨"OwnedClouds$Ground", "hail", "(III)V"⟩, prog_4_method_7_code, 4, none)
def ow_e162 : MethodName × ByteArray × Nat × Option FieldType := (⟨"OwnedClouds$Ground", "lie", "(LOwnedClouds$Table;III)V"⟩, prog_4_method_8_code, 9, none)
def ow_e163 : MethodName × ByteArray × Nat × Option FieldType := (⟨"OwnedClouds$Ground", "soak", "(III)V"⟩, prog_4_method_9_code, 9, none)
def ow_e164 : MethodName × ByteArray × Nat × Option FieldType := (⟨"OwnedClouds$Guess", "<init>", "(LOwnedClouds$Sky;LOwnedClouds$Book;)V"⟩, prog_5_method_1_code, 3, none)
def ow_e165 : MethodName × ByteArray × Nat × Option FieldType := (⟨"OwnedClouds$Guess", "ways", "()I"⟩, prog_5_method_2_code, 1, some .int)
def ow_e166 : MethodName × ByteArray × Nat × Option FieldType := (⟨"OwnedClouds$Guess", "sure", "()I"⟩, prog_5_method_3_code, 1, some .int)
def ow_e167 : MethodName × ByteArray × Nat × Option FieldType := (⟨"OwnedClouds$Guess", "liar", "()I"⟩, prog_5_method_4_code, 2, some .int)
def ow_e168 : MethodName × ByteArray × Nat × Option FieldType := (⟨"OwnedClouds$Guess", "guessed", "()I"⟩, prog_5_method_5_code, 1, some .int)
def ow_e169 : MethodName × ByteArray × Nat × Option FieldType := (⟨"OwnedClouds$Guess", "search", "(I)V"⟩, prog_5_method_6_code, 4, none)
def ow_e170 : MethodName × ByteArray × Nat × Option FieldType := (⟨"OwnedClouds$Guess", "place", "(IIII)V"⟩, prog_5_method_7_code, 7, none)
def ow_e171 : MethodName × ByteArray × Nat × Option FieldType := (⟨"OwnedClouds$Guess", "explainBy", "(II)V"⟩, prog_5_method_8_code, 3, none)
def ow_e172 : MethodName × ByteArray × Nat × Option FieldType := (⟨"OwnedClouds$Guess", "passes", "(II)Z"⟩, prog_5_method_9_code, 4, some .boolean)
def ow_e173 : MethodName × ByteArray × Nat × Option FieldType := (⟨"OwnedClouds$Market", "<init>", "(LOwnedClouds$Sky;LOwnedClouds$Book;)V"⟩, prog_6_method_1_code, 3, none)
def ow_e174 : MethodName × ByteArray × Nat × Option FieldType := (⟨"OwnedClouds$Market", "price", "()I"⟩, prog_6_method_2_code, 1, some .int)
def ow_e175 : MethodName × ByteArray × Nat × Option FieldType := (⟨"OwnedClouds$Market", "allPay", "()I"⟩, prog_6_method_3_code, 3, some .int)
def ow_e176 : MethodName × ByteArray × Nat × Option FieldType := (⟨"OwnedClouds$Market", "serve", "(I)V"⟩, prog_6_method_4_code, 6, none)
def ow_e177 : MethodName × ByteArray × Nat × Option FieldType := (⟨"OwnedClouds$Market", "bestLeft", "()I"⟩, prog_6_method_5_code, 4, some .int)
def ow_e178 : MethodName × ByteArray × Nat × Option FieldType := (⟨"OwnedClouds$Market", "ration", "(I)V"⟩, prog_6_method_6_code, 4, none)
def ow_e179 : MethodName × ByteArray × Nat × Option FieldType := (⟨"OwnedClouds$Market", "driest", "()I"⟩, prog_6_method_7_code, 4, some .int)
def ow_e180 : MethodName × ByteArray × Nat × Option FieldType := (⟨"OwnedClouds$Market", "hasLess", "(II)Z"⟩, prog_6_method_8_code, 3, some .boolean)
def ow_e181 : MethodName × ByteArray × Nat × Option FieldType := (⟨"OwnedClouds$Row", "<init>", "(I)V"⟩, prog_7_method_1_code, 2, none)
def ow_e182 : MethodName × ByteArray × Nat × Option FieldType := (⟨"OwnedClouds$Row", "get", "(I)I"⟩, prog_7_method_2_code, 2, some .int)
def ow_e183 : MethodName × ByteArray × Nat × Option FieldType := (⟨"OwnedClouds$Row", "set", "(II)V"⟩, prog_7_method_3_code, 3, none)
def ow_e184 : MethodName × ByteArray × Nat × Option FieldType := (⟨"OwnedClouds$Row", "add", "(II)V"⟩, prog_7_method_4_code, 3, none)
def ow_e185 : MethodName × ByteArray × Nat × Option FieldType := (⟨"OwnedClouds$Row", "setAll", "(I)V"⟩, prog_7_method_5_code, 3, none)
def ow_e186 : MethodName × ByteArray × Nat × Option FieldType := (⟨"OwnedClouds$Row", "copyFrom", "(LOwnedClouds$Row;)V"⟩, prog_7_method_6_code, 3, none)
def ow_e187 : MethodName × ByteArray × Nat × Option FieldType := (⟨"OwnedClouds$Sky", "<init>", "()V"⟩, prog_8_method_1_code, 1, none)
def ow_e188 : MethodName × ByteArray × Nat × Option FieldType := (⟨"OwnedClouds$Sky", "wipe", "()V"⟩, prog_8_method_2_code, 1, none)
def ow_e189 : MethodName × ByteArray × Nat × Option FieldType := (⟨"OwnedClouds$Sky", "copyFrom", "(LOwnedClouds$Sky;)V"⟩, prog_8_method_3_code, 2, none)
def ow_e190 : MethodName × ByteArray × Nat × Option FieldType := (⟨"OwnedClouds$Sky", "fact", "(I)I"⟩, prog_8_method_4_code, 2, some .int)
def ow_e191 : MethodName × ByteArray × Nat × Option FieldType := (⟨"OwnedClouds$Sky", "isInside", "(II)Z"⟩, prog_8_method_5_code, 3, some .boolean)
def ow_e192 : MethodName × ByteArray × Nat × Option FieldType := (⟨"OwnedClouds$Sky", "fieldAt", "(I)I"⟩, prog_8_method_6_code, 2, some .int)
def ow_e193 : MethodName × ByteArray × Nat × Option FieldType := (⟨"OwnedClouds$Sky", "glacierAt", "(I)I"⟩, prog_8_method_7_code, 2, some .int)
def ow_e194 : MethodName × ByteArray × Nat × Option FieldType := (⟨"OwnedClouds$Sky", "windAt", "(II)I"⟩, prog_8_method_8_code, 6, some .int)
def ow_e195 : MethodName × ByteArray × Nat × Option FieldType := (⟨"OwnedClouds$Sky", "across", "(I)I"⟩, prog_8_method_9_code, 2, some .int)
def ow_e196 : MethodName × ByteArray × Nat × Option FieldType := (⟨"OwnedClouds$Sky", "down", "(I)I"⟩, prog_8_method_10_code, 2, some .int)
def ow_e197 : MethodName × ByteArray × Nat × Option FieldType := (⟨"OwnedClouds$Sky", "layTrails", "()V"⟩, prog_8_method_11_code, 2, none)
def ow_e198 : MethodName × ByteArray × Nat × Option FieldType := (⟨"OwnedClouds$Sky", "layTrail", "(I)V"⟩, prog_8_method_12_code, 7, none)
def ow_e199 : MethodName × ByteArray × Nat × Option FieldType := (⟨"OwnedClouds$Sky", "hoursIn", "(II)I"⟩, prog_8_method_13_code, 5, some .int)
def ow_e200 : MethodName × ByteArray × Nat × Option FieldType := (⟨"OwnedClouds$Sky", "reach", "(II)J"⟩, prog_8_method_14_code, 7, some .long)
def ow_e201 : MethodName × ByteArray × Nat × Option FieldType := (⟨"OwnedClouds$Sky", "bitOf", "(II)J"⟩, prog_8_method_15_code, 3, some .long)
def ow_e202 : MethodName × ByteArray × Nat × Option FieldType := (⟨"OwnedClouds$Sky", "spread", "(JI)J"⟩, prog_8_method_16_code, 8, some .long)
def ow_e203 : MethodName × ByteArray × Nat × Option FieldType := (⟨"OwnedClouds$Sky", "around", "(II)J"⟩, prog_8_method_17_code, 7, some .long)
def ow_e204 : MethodName × ByteArray × Nat × Option FieldType := (⟨"OwnedClouds$Sky", "dearestIn", "(J)I"⟩, prog_8_method_18_code, 6, some .int)
def ow_e205 : MethodName × ByteArray × Nat × Option FieldType := (⟨"OwnedClouds$SkyReader", "<init>", "(LOwnedClouds$Row;)V"⟩, prog_9_method_1_code, 2, none)
def ow_e206 : MethodName × ByteArray × Nat × Option FieldType := (⟨"OwnedClouds$SkyReader", "draft", "()LOwnedClouds$Sky;"⟩, prog_9_method_2_code, 1, some (.object "OwnedClouds$Sky"))
def ow_e207 : MethodName × ByteArray × Nat × Option FieldType := (⟨"OwnedClouds$SkyReader", "faultPlace", "()I"⟩, prog_9_method_3_code, 1, some .int)
def ow_e208 : MethodName × ByteArray × Nat × Option FieldType := (⟨"OwnedClouds$SkyReader", "read", "(I)I"⟩, prog_9_method_4_code, 3, some .int)
def ow_e209 : MethodName × ByteArray × Nat × Option FieldType := (⟨"OwnedClouds$SkyReader", "fail", "(II)V"⟩, prog_9_method_5_code, 3, none)
def ow_e210 : MethodName × ByteArray × Nat × Option FieldType := (⟨"OwnedClouds$SkyReader", "readClause", "(I)V"⟩, prog_9_method_6_code, 4, none)
def ow_e211 : MethodName × ByteArray × Nat × Option FieldType := (⟨"OwnedClouds$SkyReader", "isTooMany", "(I)Z"⟩, prog_9_method_7_code, 2, some .boolean)
def ow_e212 : MethodName × ByteArray × Nat × Option FieldType := (⟨"OwnedClouds$SkyReader", "readNumbers", "(I)V"⟩, prog_9_method_8_code, 2, none)
def ow_e213 : MethodName × ByteArray × Nat × Option FieldType := (⟨"OwnedClouds$SkyReader", "wordAt", "(I)Ljava/lang/String;"⟩, prog_9_method_9_code, 1, some (.object "java/lang/String"))
def ow_e214 : MethodName × ByteArray × Nat × Option FieldType := (⟨"OwnedClouds$SkyReader", "readSize", "()V"⟩, prog_9_method_10_code, 1, none)
def ow_e215 : MethodName × ByteArray × Nat × Option FieldType := (⟨"OwnedClouds$SkyReader", "readWind", "()V"⟩, prog_9_method_11_code, 2, none)
def ow_e216 : MethodName × ByteArray × Nat × Option FieldType := (⟨"OwnedClouds$SkyReader", "readCloud", "()V"⟩, prog_9_method_12_code, 2, none)
def ow_e217 : MethodName × ByteArray × Nat × Option FieldType := (⟨"OwnedClouds$SkyReader", "readSeen", "()V"⟩, prog_9_method_13_code, 4, none)
def ow_e218 : MethodName × ByteArray × Nat × Option FieldType := (⟨"OwnedClouds$SkyReader", "readField", "()V"⟩, prog_9_method_14_code, 4, none)
def ow_e219 : MethodName × ByteArray × Nat × Option FieldType := (⟨"OwnedClouds$SkyReader", "readGlacier", "()V"⟩, prog_9_method_15_code, 4, none)
def ow_e220 : MethodName × ByteArray × Nat × Option FieldType := (⟨"OwnedClouds$SkyReader", "lastX", "()I"⟩, prog_9_method_16_code, 1, some .int)
def ow_e221 : MethodName × ByteArray × Nat × Option FieldType := (⟨"OwnedClouds$SkyReader", "lastY", "()I"⟩, prog_9_method_17_code, 1, some .int)
def ow_e222 : MethodName × ByteArray × Nat × Option FieldType := (⟨"OwnedClouds$SkyReader", "skipBlanks", "()V"⟩, prog_9_method_18_code, 1, none)
def ow_e223 : MethodName × ByteArray × Nat × Option FieldType := (⟨"OwnedClouds$SkyReader", "readWord", "()I"⟩, prog_9_method_19_code, 3, some .int)
def ow_e224 : MethodName × ByteArray × Nat × Option FieldType := (⟨"OwnedClouds$SkyReader", "isSpelt", "(Ljava/lang/String;I)Z"⟩, prog_9_method_20_code, 4, some .boolean)
def ow_e225 : MethodName × ByteArray × Nat × Option FieldType := (⟨"OwnedClouds$SkyReader", "readNumber", "(II)I"⟩, prog_9_method_21_code, 4, some .int)
def ow_e226 : MethodName × ByteArray × Nat × Option FieldType := (⟨"OwnedClouds$SkyReader", "readEnd", "()V"⟩, prog_9_method_22_code, 1, none)
def ow_e227 : MethodName × ByteArray × Nat × Option FieldType := (⟨"OwnedClouds$Table", "<init>", "(II)V"⟩, prog_10_method_1_code, 4, none)
def ow_e228 : MethodName × ByteArray × Nat × Option FieldType := (⟨"OwnedClouds$Table", "size", "()I"⟩, prog_10_method_2_code, 1, some .int)
def ow_e229 : MethodName × ByteArray × Nat × Option FieldType := (⟨"OwnedClouds$Table", "isFull", "()Z"⟩, prog_10_method_3_code, 1, some .boolean)
def ow_e230 : MethodName × ByteArray × Nat × Option FieldType := (⟨"OwnedClouds$Table", "get", "(II)I"⟩, prog_10_method_4_code, 4, some .int)
def ow_e231 : MethodName × ByteArray × Nat × Option FieldType := (⟨"OwnedClouds$Table", "set", "(III)V"⟩, prog_10_method_5_code, 5, none)
def ow_e232 : MethodName × ByteArray × Nat × Option FieldType := (⟨"OwnedClouds$Table", "add", "(III)V"⟩, prog_10_method_6_code, 5, none)
def ow_e233 : MethodName × ByteArray × Nat × Option FieldType := (⟨"OwnedClouds$Table", "open", "()I"⟩, prog_10_method_7_code, 1, some .int)
def ow_e234 : MethodName × ByteArray × Nat × Option FieldType := (⟨"OwnedClouds$Table", "sum", "(I)I"⟩, prog_10_method_8_code, 4, some .int)
def ow_e235 : MethodName × ByteArray × Nat × Option FieldType := (⟨"OwnedClouds$Table", "mostIn", "(I)I"⟩, prog_10_method_9_code, 4, some .int)
def ow_e236 : MethodName × ByteArray × Nat × Option FieldType := (⟨"OwnedClouds$Table", "rowAt", "(II)I"⟩, prog_10_method_10_code, 4, some .int)
def ow_e237 : MethodName × ByteArray × Nat × Option FieldType := (⟨"OwnedClouds$Table", "empty", "()V"⟩, prog_10_method_11_code, 2, none)
def ow_e238 : MethodName × ByteArray × Nat × Option FieldType := (⟨"OwnedClouds$Table", "emptyRow", "(I)V"⟩, prog_10_method_12_code, 3, none)
def ow_e239 : MethodName × ByteArray × Nat × Option FieldType := (⟨"OwnedClouds$Table", "copyFrom", "(LOwnedClouds$Table;)V"⟩, prog_10_method_13_code, 3, none)
def ow_e240 : MethodName × ByteArray × Nat × Option FieldType := (⟨"OwnedClouds$Worth", "<init>", "(LOwnedClouds$Sky;)V"⟩, prog_11_method_1_code, 2, none)
def ow_e241 : MethodName × ByteArray × Nat × Option FieldType := (⟨"OwnedClouds$Worth", "above", "()J"⟩, prog_11_method_2_code, 1, some .long)
def ow_e242 : MethodName × ByteArray × Nat × Option FieldType := (⟨"OwnedClouds$Worth", "below", "()J"⟩, prog_11_method_3_code, 1, some .long)
def ow_e243 : MethodName × ByteArray × Nat × Option FieldType := (⟨"OwnedClouds$Worth", "measure", "()V"⟩, prog_11_method_4_code, 4, none)
def ow_e244 : MethodName × ByteArray × Nat × Option FieldType := (⟨"OwnedClouds$Worth", "of", "(I)I"⟩, prog_11_method_5_code, 5, some .int)
def ow_e245 : MethodName × ByteArray × Nat × Option FieldType := (⟨"OwnedClouds$Worth", "dearestLeft", "()I"⟩, prog_11_method_6_code, 4, some .int)
def ow_e246 : MethodName × ByteArray × Nat × Option FieldType := (⟨"OwnedClouds$Worth", "quench", "(I)I"⟩, prog_11_method_7_code, 6, some .int)
def ow_e247 : MethodName × ByteArray × Nat × Option FieldType := (⟨"OwnedClouds$Worth", "findWater", "(I)I"⟩, prog_11_method_8_code, 6, some .int)
def ow_e248 : MethodName × ByteArray × Nat × Option FieldType := (⟨"OwnedClouds$Worth", "queueServed", "(III)I"⟩, prog_11_method_9_code, 6, some .int)
def ow_e249 : MethodName × ByteArray × Nat × Option FieldType := (⟨"OwnedClouds$Worth", "lead", "(III)I"⟩, prog_11_method_10_code, 8, some .int)
def ow_e250 : MethodName × ByteArray × Nat × Option FieldType := (⟨"OwnedClouds$Worth", "shareOut", "(I)V"⟩, prog_11_method_11_code, 7, none)
def ow_e251 : MethodName × ByteArray × Nat × Option FieldType := (⟨"OwnedClouds$Worth", "ordersOf", "(I)I"⟩, prog_11_method_12_code, 3, some .int)
def ow_e252 : MethodName × ByteArray × Nat × Option FieldType := (⟨"OwnedClouds$Worth", "commonOf", "(JJ)J"⟩, prog_11_method_13_code, 11, some .long)
def ow_e253 : MethodName × ByteArray × Nat × Option FieldType := (⟨"OwnedCloudsLaw", "sky", "(LOwnedClouds;I[J)I"⟩, method_3_code, 4, some .int)
def ow_e254 : MethodName × ByteArray × Nat × Option FieldType := (⟨"OwnedCloudsLaw", "told", "(LOwnedClouds;I[J)I"⟩, method_4_code, 4, some .int)
def ow_e255 : MethodName × ByteArray × Nat × Option FieldType := (⟨"OwnedCloudsLaw", "owner", "(LOwnedClouds;I[J)I"⟩, method_5_code, 4, some .int)
def ow_e256 : MethodName × ByteArray × Nat × Option FieldType := (⟨"OwnedCloudsLaw", "path", "(LOwnedClouds;II[J)I"⟩, method_6_code, 5, some .int)
def ow_e257 : MethodName × ByteArray × Nat × Option FieldType := (⟨"OwnedCloudsLaw", "field", "(LOwnedClouds;II[J)I"⟩, method_7_code, 5, some .int)
def ow_e258 : MethodName × ByteArray × Nat × Option FieldType := (⟨"OwnedCloudsLaw", "order", "(LOwnedClouds;IIII[J)I"⟩, method_8_code, 7, some .int)
def ow_e259 : MethodName × ByteArray × Nat × Option FieldType := (⟨"OwnedCloudsLaw", "day", "(LOwnedClouds;II[J)I"⟩, method_9_code, 5, some .int)
def ow_e260 : MethodName × ByteArray × Nat × Option FieldType := (⟨"OwnedCloudsLaw", "cloud", "(LOwnedClouds;IIII[J)I"⟩, method_10_code, 7, some .int)
def ow_e261 : MethodName × ByteArray × Nat × Option FieldType := (⟨"OwnedCloudsLaw", "part", "(LOwnedClouds;IIII[J)I"⟩, method_11_code, 7, some .int)
def ow_e262 : MethodName × ByteArray × Nat × Option FieldType := (⟨"OwnedCloudsLaw", "account", "(LOwnedClouds;III[J)I"⟩, method_12_code, 6, some .int)
def ow_e263 : MethodName × ByteArray × Nat × Option FieldType := (⟨"OwnedCloudsLaw", "farmer", "(LOwnedClouds;III[J)I"⟩, method_13_code, 6, some .int)
def ow_e264 : MethodName × ByteArray × Nat × Option FieldType := (⟨"OwnedCloudsLaw", "after", "(LOwnedClouds;III[J)I"⟩, method_14_code, 6, some .int)
def ow_e265 : MethodName × ByteArray × Nat × Option FieldType := (⟨"OwnedCloudsLaw", "worth", "(LOwnedClouds;I[J)I"⟩, method_15_code, 4, some .int)
def ow_e266 : MethodName × ByteArray × Nat × Option FieldType := (⟨"OwnedCloudsLaw", "share", "(LOwnedClouds;II[J)I"⟩, method_16_code, 5, some .int)
def ow_e267 : MethodName × ByteArray × Nat × Option FieldType := (⟨"OwnedCloudsLaw", "bid", "(LOwnedClouds;III[J)I"⟩, method_17_code, 6, some .int)
def ow_e268 : MethodName × ByteArray × Nat × Option FieldType := (⟨"OwnedCloudsLaw", "gets", "(LOwnedClouds;II[J)I"⟩, method_18_code, 5, some .int)
def ow_e269 : MethodName × ByteArray × Nat × Option FieldType := (⟨"OwnedCloudsLaw", "settled", "(LOwnedClouds;II[J)I"⟩, method_19_code, 5, some .int)
def ow_e270 : MethodName × ByteArray × Nat × Option FieldType := (⟨"OwnedCloudsLaw", "drought", "(LOwnedClouds;II[J)I"⟩, method_20_code, 5, some .int)
def ow_e271 : MethodName × ByteArray × Nat × Option FieldType := (⟨"OwnedCloudsLaw", "gauge", "(LOwnedClouds;III[J)I"⟩, method_21_code, 6, some .int)
def ow_e272 : MethodName × ByteArray × Nat × Option FieldType := (⟨"OwnedCloudsLaw", "explain", "(LOwnedClouds;I[J)I"⟩, method_22_code, 4, some .int)
def ow_e273 : MethodName × ByteArray × Nat × Option FieldType := (⟨"OwnedCloudsLaw", "doubt", "(LOwnedClouds;II[J)I"⟩, method_23_code, 5, some .int)
def ow_e274 : MethodName × ByteArray × Nat × Option FieldType := (⟨"OwnedCloudsLaw", "worst", "(LOwnedClouds;II[J)I"⟩, method_24_code, 5, some .int)
def ow_e275 : MethodName × ByteArray × Nat × Option FieldType := (⟨"OwnedCloudsLaw", "law", "([I)Z"⟩, code, 8, some .boolean)
def ow_e276 : MethodName × ByteArray × Nat × Option FieldType := (⟨"java/lang/Integer", "bitCount", "(I)I"⟩, prog_20_method_49_code, 1, some .int)
def ow_M (m : Nat) : MethodName × ByteArray × Nat × Option FieldType := (cond (Nat.ble m 137) (cond (Nat.ble m 68) (cond (Nat.ble m 33) (cond (Nat.ble m 16) (cond (Nat.ble m 7) (cond (Nat.ble m 3) (cond (Nat.ble m 1) (cond (Nat.ble m 0) ow_e0 ow_e1) (cond (Nat.ble m 2) ow_e2 ow_e3)) (cond (Nat.ble m 5) (cond (Nat.ble m 4) ow_e4 ow_e5) (cond (Nat.ble m 6) ow_e6 ow_e7))) (cond (Nat.ble m 11) (cond (Nat.ble m 9) (cond (Nat.ble m 8) ow_e8 ow_e9) (cond (Nat.ble m 10) ow_e10 ow_e11)) (cond (Nat.ble m 13) (cond (Nat.ble m 12) ow_e12 ow_e13) (cond (Nat.ble m 14) ow_e14 (cond (Nat.ble m 15) ow_e15 ow_e16))))) (cond (Nat.ble m 24) (cond (Nat.ble m 20) (cond (Nat.ble m 18) (cond (Nat.ble m 17) ow_e17 ow_e18) (cond (Nat.ble m 19) ow_e19 ow_e20)) (cond (Nat.ble m 22) (cond (Nat.ble m 21) ow_e21 ow_e22) (cond (Nat.ble m 23) ow_e23 ow_e24))) (cond (Nat.ble m 28) (cond (Nat.ble m 26) (cond (Nat.ble m 25) ow_e25 ow_e26) (cond (Nat.ble m 27) ow_e27 ow_e28)) (cond (Nat.ble m 30) (cond (Nat.ble m 29) ow_e29 ow_e30) (cond (Nat.ble m 31) ow_e31 (cond (Nat.ble m 32) ow_e32 ow_e33)))))) (cond (Nat.ble m 50) (cond (Nat.ble m 41) (cond (Nat.ble m 37) (cond (Nat.ble m 35) (cond (Nat.ble m 34) ow_e34 ow_e35) (cond (Nat.ble m 36) ow_e36 ow_e37)) (cond (Nat.ble m 39) (cond (Nat.ble m 38) ow_e38 ow_e39) (cond (Nat.ble m 40) ow_e40 ow_e41))) (cond (Nat.ble m 45) (cond (Nat.ble m 43) (cond (Nat.ble m 42) ow_e42 ow_e43) (cond (Nat.ble m 44) ow_e44 ow_e45)) (cond (Nat.ble m 47) (cond (Nat.ble m 46) ow_e46 ow_e47) (cond (Nat.ble m 48) ow_e48 (cond (Nat.ble m 49) ow_e49 ow_e50))))) (cond (Nat.ble m 59) (cond (Nat.ble m 54) (cond (Nat.ble m 52) (cond (Nat.ble m 51) ow_e51 ow_e52) (cond (Nat.ble m 53) ow_e53 ow_e54)) (cond (Nat.ble m 56) (cond (Nat.ble m 55) ow_e55 ow_e56) (cond (Nat.ble m 57) ow_e57 (cond (Nat.ble m 58) ow_e58 ow_e59)))) (cond (Nat.ble m 63) (cond (Nat.ble m 61) (cond (Nat.ble m 60) ow_e60 ow_e61) (cond (Nat.ble m 62) ow_e62 ow_e63)) (cond (Nat.ble m 65) (cond (Nat.ble m 64) ow_e64 ow_e65) (cond (Nat.ble m 66) ow_e66 (cond (Nat.ble m 67) ow_e67 ow_e68))))))) (cond (Nat.ble m 102) (cond (Nat.ble m 85) (cond (Nat.ble m 76) (cond (Nat.ble m 72) (cond (Nat.ble m 70) (cond (Nat.ble m 69) ow_e69 ow_e70) (cond (Nat.ble m 71) ow_e71 ow_e72)) (cond (Nat.ble m 74) (cond (Nat.ble m 73) ow_e73 ow_e74) (cond (Nat.ble m 75) ow_e75 ow_e76))) (cond (Nat.ble m 80) (cond (Nat.ble m 78) (cond (Nat.ble m 77) ow_e77 ow_e78) (cond (Nat.ble m 79) ow_e79 ow_e80)) (cond (Nat.ble m 82) (cond (Nat.ble m 81) ow_e81 ow_e82) (cond (Nat.ble m 83) ow_e83 (cond (Nat.ble m 84) ow_e84 ow_e85))))) (cond (Nat.ble m 93) (cond (Nat.ble m 89) (cond (Nat.ble m 87) (cond (Nat.ble m 86) ow_e86 ow_e87) (cond (Nat.ble m 88) ow_e88 ow_e89)) (cond (Nat.ble m 91) (cond (Nat.ble m 90) ow_e90 ow_e91) (cond (Nat.ble m 92) ow_e92 ow_e93))) (cond (Nat.ble m 97) (cond (Nat.ble m 95) (cond (Nat.ble m 94) ow_e94 ow_e95) (cond (Nat.ble m 96) ow_e96 ow_e97)) (cond (Nat.ble m 99) (cond (Nat.ble m 98) ow_e98 ow_e99) (cond (Nat.ble m 100) ow_e100 (cond (Nat.ble m 101) ow_e101 ow_e102)))))) (cond (Nat.ble m 119) (cond (Nat.ble m 110) (cond (Nat.ble m 106) (cond (Nat.ble m 104) (cond (Nat.ble m 103) ow_e103 ow_e104) (cond (Nat.ble m 105) ow_e105 ow_e106)) (cond (Nat.ble m 108) (cond (Nat.ble m 107) ow_e107 ow_e108) (cond (Nat.ble m 109) ow_e109 ow_e110))) (cond (Nat.ble m 114) (cond (Nat.ble m 112) (cond (Nat.ble m 111) ow_e111 ow_e112) (cond (Nat.ble m 113) ow_e113 ow_e114)) (cond (Nat.ble m 116) (cond (Nat.ble m 115) ow_e115 ow_e116) (cond (Nat.ble m 117) ow_e117 (cond (Nat.ble m 118) ow_e118 ow_e119))))) (cond (Nat.ble m 128) (cond (Nat.ble m 123) (cond (Nat.ble m 121) (cond (Nat.ble m 120) ow_e120 ow_e121) (cond (Nat.ble m 122) ow_e122 ow_e123)) (cond (Nat.ble m 125) (cond (Nat.ble m 124) ow_e124 ow_e125) (cond (Nat.ble m 126) ow_e126 (cond (Nat.ble m 127) ow_e127 ow_e128)))) (cond (Nat.ble m 132) (cond (Nat.ble m 130) (cond (Nat.ble m 129) ow_e129 ow_e130) (cond (Nat.ble m 131) ow_e131 ow_e132)) (cond (Nat.ble m 134) (cond (Nat.ble m 133) ow_e133 ow_e134) (cond (Nat.ble m 135) ow_e135 (cond (Nat.ble m 136) ow_e136 ow_e137)))))))) (cond (Nat.ble m 206) (cond (Nat.ble m 171) (cond (Nat.ble m 154) (cond (Nat.ble m 145) (cond (Nat.ble m 141) (cond (Nat.ble m 139) (cond (Nat.ble m 138) ow_e138 ow_e139) (cond (Nat.ble m 140) ow_e140 ow_e141)) (cond (Nat.ble m 143) (cond (Nat.ble m 142) ow_e142 ow_e143) (cond (Nat.ble m 144) ow_e144 ow_e145))) (cond (Nat.ble m 149) (cond (Nat.ble m 147) (cond (Nat.ble m 146) ow_e146 ow_e147) (cond (Nat.ble m 148) ow_e148 ow_e149)) (cond (Nat.ble m 151) (cond (Nat.ble m 150) ow_e150 ow_e151) (cond (Nat.ble m 152) ow_e152 (cond (Nat.ble m 153) ow_e153 ow_e154))))) (cond (Nat.ble m 162) (cond (Nat.ble m 158) (cond (Nat.ble m 156) (cond (Nat.ble m 155) ow_e155 ow_e156) (cond (Nat.ble m 157) ow_e157 ow_e158)) (cond (Nat.ble m 160) (cond (Nat.ble m 159) ow_e159 ow_e160) (cond (Nat.ble m 161) ow_e161 ow_e162))) (cond (Nat.ble m 166) (cond (Nat.ble m 164) (cond (Nat.ble m 163) ow_e163 ow_e164) (cond (Nat.ble m 165) ow_e165 ow_e166)) (cond (Nat.ble m 168) (cond (Nat.ble m 167) ow_e167 ow_e168) (cond (Nat.ble m 169) ow_e169 (cond (Nat.ble m 170) ow_e170 ow_e171)))))) (cond (Nat.ble m 188) (cond (Nat.ble m 179) (cond (Nat.ble m 175) (cond (Nat.ble m 173) (cond (Nat.ble m 172) ow_e172 ow_e173) (cond (Nat.ble m 174) ow_e174 ow_e175)) (cond (Nat.ble m 177) (cond (Nat.ble m 176) ow_e176 ow_e177) (cond (Nat.ble m 178) ow_e178 ow_e179))) (cond (Nat.ble m 183) (cond (Nat.ble m 181) (cond (Nat.ble m 180) ow_e180 ow_e181) (cond (Nat.ble m 182) ow_e182 ow_e183)) (cond (Nat.ble m 185) (cond (Nat.ble m 184) ow_e184 ow_e185) (cond (Nat.ble m 186) ow_e186 (cond (Nat.ble m 187) ow_e187 ow_e188))))) (cond (Nat.ble m 197) (cond (Nat.ble m 192) (cond (Nat.ble m 190) (cond (Nat.ble m 189) ow_e189 ow_e190) (cond (Nat.ble m 191) ow_e191 ow_e192)) (cond (Nat.ble m 194) (cond (Nat.ble m 193) ow_e193 ow_e194) (cond (Nat.ble m 195) ow_e195 (cond (Nat.ble m 196) ow_e196 ow_e197)))) (cond (Nat.ble m 201) (cond (Nat.ble m 199) (cond (Nat.ble m 198) ow_e198 ow_e199) (cond (Nat.ble m 200) ow_e200 ow_e201)) (cond (Nat.ble m 203) (cond (Nat.ble m 202) ow_e202 ow_e203) (cond (Nat.ble m 204) ow_e204 (cond (Nat.ble m 205) ow_e205 ow_e206))))))) (cond (Nat.ble m 241) (cond (Nat.ble m 223) (cond (Nat.ble m 214) (cond (Nat.ble m 210) (cond (Nat.ble m 208) (cond (Nat.ble m 207) ow_e207 ow_e208) (cond (Nat.ble m 209) ow_e209 ow_e210)) (cond (Nat.ble m 212) (cond (Nat.ble m 211) ow_e211 ow_e212) (cond (Nat.ble m 213) ow_e213 ow_e214))) (cond (Nat.ble m 218) (cond (Nat.ble m 216) (cond (Nat.ble m 215) ow_e215 ow_e216) (cond (Nat.ble m 217) ow_e217 ow_e218)) (cond (Nat.ble m 220) (cond (Nat.ble m 219) ow_e219 ow_e220) (cond (Nat.ble m 221) ow_e221 (cond (Nat.ble m 222) ow_e222 ow_e223))))) (cond (Nat.ble m 232) (cond (Nat.ble m 227) (cond (Nat.ble m 225) (cond (Nat.ble m 224) ow_e224 ow_e225) (cond (Nat.ble m 226) ow_e226 ow_e227)) (cond (Nat.ble m 229) (cond (Nat.ble m 228) ow_e228 ow_e229) (cond (Nat.ble m 230) ow_e230 (cond (Nat.ble m 231) ow_e231 ow_e232)))) (cond (Nat.ble m 236) (cond (Nat.ble m 234) (cond (Nat.ble m 233) ow_e233 ow_e234) (cond (Nat.ble m 235) ow_e235 ow_e236)) (cond (Nat.ble m 238) (cond (Nat.ble m 237) ow_e237 ow_e238) (cond (Nat.ble m 239) ow_e239 (cond (Nat.ble m 240) ow_e240 ow_e241)))))) (cond (Nat.ble m 258) (cond (Nat.ble m 249) (cond (Nat.ble m 245) (cond (Nat.ble m 243) (cond (Nat.ble m 242) ow_e242 ow_e243) (cond (Nat.ble m 244) ow_e244 ow_e245)) (cond (Nat.ble m 247) (cond (Nat.ble m 246) ow_e246 ow_e247) (cond (Nat.ble m 248) ow_e248 ow_e249))) (cond (Nat.ble m 253) (cond (Nat.ble m 251) (cond (Nat.ble m 250) ow_e250 ow_e251) (cond (Nat.ble m 252) ow_e252 ow_e253)) (cond (Nat.ble m 255) (cond (Nat.ble m 254) ow_e254 ow_e255) (cond (Nat.ble m 256) ow_e256 (cond (Nat.ble m 257) ow_e257 ow_e258))))) (cond (Nat.ble m 267) (cond (Nat.ble m 262) (cond (Nat.ble m 260) (cond (Nat.ble m 259) ow_e259 ow_e260) (cond (Nat.ble m 261) ow_e261 ow_e262)) (cond (Nat.ble m 264) (cond (Nat.ble m 263) ow_e263 ow_e264) (cond (Nat.ble m 265) ow_e265 (cond (Nat.ble m 266) ow_e266 ow_e267)))) (cond (Nat.ble m 271) (cond (Nat.ble m 269) (cond (Nat.ble m 268) ow_e268 ow_e269) (cond (Nat.ble m 270) ow_e270 ow_e271)) (cond (Nat.ble m 273) (cond (Nat.ble m 272) ow_e272 ow_e273) (cond (Nat.ble m 274) ow_e274 (cond (Nat.ble m 275) ow_e275 ow_e276)))))))))
def ow_y (m : Nat) : MethodName := (ow_M m).1
def ow_b (m : Nat) : ByteArray := (ow_M m).2.1
def ow_x (m : Nat) : Nat := (ow_M m).2.2.1
def ow_r (m : Nat) : Option FieldType := (ow_M m).2.2.2
/-- the class in which a method stands -/
def ow_o (m : Nat) : Nat := (cond (Nat.ble m 180) (cond (Nat.ble m 135) (cond (Nat.ble m 41) 10 (cond (Nat.ble m 127) 11 0)) (cond (Nat.ble m 163) (cond (Nat.ble m 154) 1 2) (cond (Nat.ble m 172) 3 4))) (cond (Nat.ble m 226) (cond (Nat.ble m 186) 5 (cond (Nat.ble m 204) 6 7)) (cond (Nat.ble m 252) (cond (Nat.ble m 239) 8 9) (cond (Nat.ble m 275) 12 13))))
/-- static -/
def ow_s (m : Nat) : Bool := (cond (Nat.ble m 68) (cond (Nat.ble m 46) (cond (Nat.ble m 34) (cond (Nat.ble m 31) false (cond (Nat.ble m 32) true false)) (cond (Nat.ble m 41) true (cond (Nat.ble m 45) false true))) (cond (Nat.ble m 53) (cond (Nat.ble m 50) false (cond (Nat.ble m 51) true false)) (cond (Nat.ble m 57) (cond (Nat.ble m 54) true false) (cond (Nat.ble m 58) true false)))) (cond (Nat.ble m 110) (cond (Nat.ble m 80) (cond (Nat.ble m 69) true (cond (Nat.ble m 78) false true)) (cond (Nat.ble m 104) false (cond (Nat.ble m 106) true false))) (cond (Nat.ble m 131) (cond (Nat.ble m 111) true (cond (Nat.ble m 130) false true)) (cond (Nat.ble m 213) (cond (Nat.ble m 212) false true) (cond (Nat.ble m 250) false true)))))
/-- how many parameters the descriptor has -/
def ow_np (m : Nat) : Nat := (cond (Nat.ble m 131) (cond (Nat.ble m 64) (cond (Nat.ble m 29) (cond (Nat.ble m 12) (cond (Nat.ble m 5) (cond (Nat.ble m 1) (cond (Nat.ble m 0) 0 5) (cond (Nat.ble m 2) 1 (cond (Nat.ble m 3) 0 1))) (cond (Nat.ble m 8) (cond (Nat.ble m 7) 2 4) (cond (Nat.ble m 9) 0 (cond (Nat.ble m 10) 2 4)))) (cond (Nat.ble m 19) (cond (Nat.ble m 16) (cond (Nat.ble m 15) 3 1) (cond (Nat.ble m 17) 2 (cond (Nat.ble m 18) 3 0))) (cond (Nat.ble m 24) (cond (Nat.ble m 22) 2 (cond (Nat.ble m 23) 3 0)) (cond (Nat.ble m 25) 1 (cond (Nat.ble m 27) 2 0))))) (cond (Nat.ble m 50) (cond (Nat.ble m 45) (cond (Nat.ble m 40) (cond (Nat.ble m 39) 1 2) (cond (Nat.ble m 41) 1 (cond (Nat.ble m 44) 0 2))) (cond (Nat.ble m 47) (cond (Nat.ble m 46) 3 5) (cond (Nat.ble m 48) 1 (cond (Nat.ble m 49) 0 2)))) (cond (Nat.ble m 55) (cond (Nat.ble m 52) (cond (Nat.ble m 51) 1 2) (cond (Nat.ble m 53) 0 (cond (Nat.ble m 54) 5 1))) (cond (Nat.ble m 59) (cond (Nat.ble m 57) 0 (cond (Nat.ble m 58) 1 0)) (cond (Nat.ble m 62) 3 (cond (Nat.ble m 63) 0 1)))))) (cond (Nat.ble m 100) (cond (Nat.ble m 77) (cond (Nat.ble m 72) (cond (Nat.ble m 69) (cond (Nat.ble m 65) 0 1) (cond (Nat.ble m 70) 2 (cond (Nat.ble m 71) 3 2))) (cond (Nat.ble m 74) (cond (Nat.ble m 73) 1 2) (cond (Nat.ble m 75) 1 (cond (Nat.ble m 76) 2 4)))) (cond (Nat.ble m 89) (cond (Nat.ble m 82) (cond (Nat.ble m 78) 0 1) (cond (Nat.ble m 83) 0 (cond (Nat.ble m 87) 2 1))) (cond (Nat.ble m 93) (cond (Nat.ble m 91) 2 (cond (Nat.ble m 92) 5 1)) (cond (Nat.ble m 95) 2 (cond (Nat.ble m 97) 4 3))))) (cond (Nat.ble m 116) (cond (Nat.ble m 108) (cond (Nat.ble m 102) (cond (Nat.ble m 101) 0 2) (cond (Nat.ble m 106) 1 (cond (Nat.ble m 107) 2 3))) (cond (Nat.ble m 111) (cond (Nat.ble m 109) 0 1) (cond (Nat.ble m 114) 2 (cond (Nat.ble m 115) 3 0)))) (cond (Nat.ble m 123) (cond (Nat.ble m 118) (cond (Nat.ble m 117) 1 2) (cond (Nat.ble m 119) 1 (cond (Nat.ble m 122) 2 3))) (cond (Nat.ble m 127) (cond (Nat.ble m 124) 2 (cond (Nat.ble m 126) 0 1)) (cond (Nat.ble m 129) 0 (cond (Nat.ble m 130) 1 2))))))) (cond (Nat.ble m 194) (cond (Nat.ble m 161) (cond (Nat.ble m 148) (cond (Nat.ble m 139) (cond (Nat.ble m 134) (cond (Nat.ble m 132) 4 3) (cond (Nat.ble m 136) 2 (cond (Nat.ble m 138) 1 0))) (cond (Nat.ble m 142) (cond (Nat.ble m 140) 2 1) (cond (Nat.ble m 143) 0 (cond (Nat.ble m 144) 1 2)))) (cond (Nat.ble m 154) (cond (Nat.ble m 151) (cond (Nat.ble m 150) 1 2) (cond (Nat.ble m 152) 0 (cond (Nat.ble m 153) 2 3))) (cond (Nat.ble m 158) (cond (Nat.ble m 155) 1 (cond (Nat.ble m 157) 0 2)) (cond (Nat.ble m 159) 1 (cond (Nat.ble m 160) 2 3))))) (cond (Nat.ble m 177) (cond (Nat.ble m 169) (cond (Nat.ble m 163) (cond (Nat.ble m 162) 4 3) (cond (Nat.ble m 164) 2 (cond (Nat.ble m 168) 0 1))) (cond (Nat.ble m 173) (cond (Nat.ble m 170) 4 2) (cond (Nat.ble m 175) 0 (cond (Nat.ble m 176) 1 0)))) (cond (Nat.ble m 184) (cond (Nat.ble m 179) (cond (Nat.ble m 178) 1 0) (cond (Nat.ble m 180) 2 (cond (Nat.ble m 182) 1 2))) (cond (Nat.ble m 190) (cond (Nat.ble m 186) 1 (cond (Nat.ble m 188) 0 1)) (cond (Nat.ble m 191) 2 (cond (Nat.ble m 193) 1 2)))))) (cond (Nat.ble m 240) (cond (Nat.ble m 223) (cond (Nat.ble m 205) (cond (Nat.ble m 197) (cond (Nat.ble m 196) 1 0) (cond (Nat.ble m 198) 1 (cond (Nat.ble m 203) 2 1))) (cond (Nat.ble m 208) (cond (Nat.ble m 207) 0 1) (cond (Nat.ble m 209) 2 (cond (Nat.ble m 213) 1 0)))) (cond (Nat.ble m 230) (cond (Nat.ble m 226) (cond (Nat.ble m 225) 2 0) (cond (Nat.ble m 227) 2 (cond (Nat.ble m 229) 0 2))) (cond (Nat.ble m 235) (cond (Nat.ble m 232) 3 (cond (Nat.ble m 233) 0 1)) (cond (Nat.ble m 236) 2 (cond (Nat.ble m 237) 0 1))))) (cond (Nat.ble m 258) (cond (Nat.ble m 249) (cond (Nat.ble m 244) (cond (Nat.ble m 243) 0 1) (cond (Nat.ble m 245) 0 (cond (Nat.ble m 247) 1 3))) (cond (Nat.ble m 252) (cond (Nat.ble m 251) 1 2) (cond (Nat.ble m 255) 3 (cond (Nat.ble m 257) 4 6)))) (cond (Nat.ble m 266) (cond (Nat.ble m 261) (cond (Nat.ble m 259) 4 6) (cond (Nat.ble m 264) 5 (cond (Nat.ble m 265) 3 4))) (cond (Nat.ble m 271) (cond (Nat.ble m 267) 5 (cond (Nat.ble m 270) 4 5)) (cond (Nat.ble m 272) 3 (cond (Nat.ble m 274) 4 1))))))))
def k_OC_init : List El := [(0, 1, false, .aload_n 0, 0, 0, 0, []), (1, 3, false, .invokespecial 3, 0, 0, 9, []), (4, 1, false, .aload_n 0, 0, 0, 0, []), (5, 3, false, .new 9, 5, 1, 0, []),
  (8, 1, false, .dup, 0, 0, 0, []), (9, 3, false, .sipush 600, 600, 0, 0, []), (12, 3, false, .invokespecial 11, 181, 2, 1, [0]), (15, 3, false, .putfield 14, 10, 0, 2, [0]),
  (18, 1, false, .aload_n 0, 0, 0, 0, []), (19, 1, false, .iconst 0, 0, 0, 0, []), (20, 3, false, .putfield 18, 10, 1, 0, [0]), (23, 1, false, .aload_n 0, 0, 0, 0, []),
  (24, 3, false, .new 22, 6, 6, 0, []), (27, 1, false, .dup, 0, 0, 0, []), (28, 3, false, .invokespecial 24, 187, 1, 1, [0]), (31, 3, false, .putfield 25, 10, 2, 2, [0]),
  (34, 1, false, .aload_n 0, 0, 0, 0, []), (35, 3, false, .new 29, 7, 7, 0, []), (38, 1, false, .dup, 0, 0, 0, []), (39, 1, false, .aload_n 0, 0, 0, 0, []),
  (40, 3, false, .getfield 14, 10, 0, 2, [0]), (43, 3, false, .invokespecial 31, 205, 2, 1, [0]), (46, 3, false, .putfield 34, 10, 3, 2, [0]), (49, 1, false, .aload_n 0, 0, 0, 0, []),
  (50, 1, false, .iconst (-1), 1, 0, 1, []), (51, 3, false, .putfield 38, 10, 4, 0, [0]), (54, 1, false, .aload_n 0, 0, 0, 0, []), (55, 3, false, .new 41, 0, 3, 0, []),
  (58, 1, false, .dup, 0, 0, 0, []), (59, 3, false, .invokespecial 43, 128, 1, 1, [0]), (62, 3, false, .putfield 44, 10, 5, 2, [0]), (65, 1, false, .aload_n 0, 0, 0, 0, []),
  (66, 1, false, .iconst 3, 3, 0, 0, []), (67, 3, false, .anewarray 41, 17, 0, 0, []), (70, 3, false, .putfield 48, 10, 6, 2, [0]), (73, 1, false, .iconst 0, 0, 0, 0, []),
  (74, 1, false, .istore_n 1, 1, 0, 0, []), (75, 1, true, .iload_n 1, 1, 0, 0, []), (76, 1, false, .iconst 3, 3, 0, 0, []), (77, 3, false, .if_icmp .ge 31, 108, 0, 0, []),
  (80, 1, false, .iload_n 1, 1, 0, 0, []), (81, 1, false, .aload_n 0, 0, 0, 0, []), (82, 3, false, .getfield 48, 10, 6, 2, [0]), (85, 1, false, .arraylength, 0, 0, 0, []),
  (86, 3, false, .if_icmp .ge 22, 108, 0, 0, []), (89, 1, false, .aload_n 0, 0, 0, 0, []), (90, 3, false, .getfield 48, 10, 6, 2, [0]), (93, 1, false, .iload_n 1, 1, 0, 0, []),
  (94, 3, false, .new 41, 0, 3, 0, []), (97, 1, false, .dup, 0, 0, 0, []), (98, 3, false, .invokespecial 43, 128, 1, 1, [0]), (101, 1, false, .aastore, 0, 0, 0, []),
  (102, 3, false, .iinc 1 1, 1, 1, 0, []), (105, 3, false, .goto (-30), 75, 0, 0, []), (108, 1, false, .aload_n 0, 0, 0, 0, []), (109, 1, false, .iconst 0, 0, 0, 0, []),
  (110, 3, false, .putfield 52, 10, 7, 0, [0]), (113, 1, false, .aload_n 0, 0, 0, 0, []), (114, 3, false, .new 55, 1, 11, 0, []), (117, 1, false, .dup, 0, 0, 0, []),
  (118, 1, false, .aload_n 0, 0, 0, 0, []), (119, 3, false, .getfield 25, 10, 2, 2, [0]), (122, 1, false, .aload_n 0, 0, 0, 0, []), (123, 3, false, .getfield 44, 10, 5, 2, [0]),
  (126, 3, false, .invokespecial 57, 136, 3, 1, [0]), (129, 3, false, .putfield 60, 10, 8, 2, [0]), (132, 1, false, .aload_n 0, 0, 0, 0, []), (133, 3, false, .new 64, 9, 11, 0, []),
  (136, 1, false, .dup, 0, 0, 0, []), (137, 1, false, .aload_n 0, 0, 0, 0, []), (138, 3, false, .getfield 25, 10, 2, 2, [0]), (141, 3, false, .invokespecial 66, 240, 2, 1, [0]),
  (144, 3, false, .putfield 69, 10, 9, 2, [0]), (147, 1, false, .aload_n 0, 0, 0, 0, []), (148, 3, false, .new 73, 4, 6, 0, []), (151, 1, false, .dup, 0, 0, 0, []),
  (152, 1, false, .aload_n 0, 0, 0, 0, []), (153, 3, false, .getfield 25, 10, 2, 2, [0]), (156, 1, false, .aload_n 0, 0, 0, 0, []), (157, 3, false, .getfield 44, 10, 5, 2, [0]),
  (160, 3, false, .invokespecial 75, 173, 3, 1, [0]), (163, 3, false, .putfield 76, 10, 10, 2, [0]), (166, 1, false, .aload_n 0, 0, 0, 0, []), (167, 3, false, .new 80, 3, 6, 0, []),
  (170, 1, false, .dup, 0, 0, 0, []), (171, 1, false, .aload_n 0, 0, 0, 0, []), (172, 3, false, .getfield 25, 10, 2, 2, [0]), (175, 1, false, .aload_n 0, 0, 0, 0, []),
  (176, 3, false, .getfield 44, 10, 5, 2, [0]), (179, 3, false, .invokespecial 82, 164, 3, 1, [0]), (182, 3, false, .putfield 83, 10, 11, 2, [0]), (185, 1, false, .return_, 0, 0, 0, [])]
def k_OC_feed : List El := [(0, 1, false, .aload_n 0, 0, 0, 0, []), (1, 3, false, .getfield 18, 10, 1, 0, [0]), (4, 2, false, .bipush 20, 20, 0, 0, []), (6, 1, false, .iadd, 0, 0, 0, []),
  (7, 3, false, .sipush 600, 600, 0, 0, []), (10, 3, false, .if_icmp .le 5, 15, 0, 0, []), (13, 1, false, .iconst (-1), 1, 0, 1, []), (14, 1, false, .ireturn, 0, 0, 0, []),
  (15, 1, false, .aload_n 0, 0, 0, 0, []), (16, 1, false, .iload_n 1, 1, 0, 0, []), (17, 3, false, .invokevirtual 87, 31, 2, 0, [0, 10]), (20, 1, false, .aload_n 0, 0, 0, 0, []),
  (21, 1, false, .iload_n 2, 2, 0, 0, []), (22, 3, false, .invokevirtual 87, 31, 2, 0, [0, 10]), (25, 1, false, .aload_n 0, 0, 0, 0, []), (26, 1, false, .iload_n 3, 3, 0, 0, []),
  (27, 3, false, .invokevirtual 87, 31, 2, 0, [0, 10]), (30, 1, false, .aload_n 0, 0, 0, 0, []), (31, 2, false, .iload 4, 4, 0, 0, []), (33, 3, false, .invokevirtual 87, 31, 2, 0, [0, 10]),
  (36, 1, false, .aload_n 0, 0, 0, 0, []), (37, 2, false, .iload 5, 5, 0, 0, []), (39, 3, false, .invokevirtual 87, 31, 2, 0, [0, 10]), (42, 1, false, .aload_n 0, 0, 0, 0, []),
  (43, 3, false, .getfield 18, 10, 1, 0, [0]), (46, 1, false, .ireturn, 0, 0, 0, [])]
def k_OC_sky : List El := [(0, 1, false, .iload_n 1, 1, 0, 0, []), (1, 3, false, .ifCond .lt 15, 16, 0, 0, []), (4, 1, false, .iload_n 1, 1, 0, 0, []), (5, 1, false, .aload_n 0, 0, 0, 0, []),
  (6, 3, false, .getfield 18, 10, 1, 0, [0]), (9, 3, false, .if_icmp .gt 7, 16, 0, 0, []), (12, 1, false, .iconst 1, 1, 0, 0, []), (13, 3, false, .goto 4, 17, 0, 0, []),
  (16, 1, false, .iconst 0, 0, 0, 0, []), (17, 3, false, .invokestatic 90, 32, 1, 1, [0]), (20, 1, false, .aload_n 0, 0, 0, 0, []), (21, 1, false, .iconst 0, 0, 0, 0, []),
  (22, 3, false, .putfield 18, 10, 1, 0, [0]), (25, 1, false, .aload_n 0, 0, 0, 0, []), (26, 3, false, .getfield 34, 10, 3, 2, [0]), (29, 1, false, .iload_n 1, 1, 0, 0, []),
  (30, 3, false, .invokevirtual 94, 208, 2, 0, [0, 7]), (33, 1, false, .istore_n 2, 2, 0, 0, []), (34, 1, false, .aload_n 0, 0, 0, 0, []), (35, 1, false, .aload_n 0, 0, 0, 0, []),
  (36, 3, false, .getfield 34, 10, 3, 2, [0]), (39, 3, false, .invokevirtual 98, 207, 1, 0, [0, 7]), (42, 3, false, .putfield 38, 10, 4, 0, [0]), (45, 1, false, .iload_n 2, 2, 0, 0, []),
  (46, 3, false, .ifCond .eq 8, 54, 0, 0, []), (49, 1, false, .iload_n 2, 2, 0, 0, []), (50, 2, false, .bipush 10, 10, 0, 0, []), (52, 1, false, .isub, 0, 0, 0, []),
  (53, 1, false, .ireturn, 0, 0, 0, []), (54, 1, false, .aload_n 0, 0, 0, 0, []), (55, 3, false, .getfield 25, 10, 2, 2, [0]), (58, 1, false, .aload_n 0, 0, 0, 0, []),
  (59, 3, false, .getfield 34, 10, 3, 2, [0]), (62, 3, false, .invokevirtual 101, 206, 1, 0, [0, 7]), (65, 3, false, .invokevirtual 105, 189, 2, 0, [0, 6]), (68, 1, false, .aload_n 0, 0, 0, 0, []),
  (69, 3, false, .getfield 44, 10, 5, 2, [0]), (72, 3, false, .invokevirtual 108, 129, 1, 0, [0, 0]), (75, 1, false, .aload_n 0, 0, 0, 0, []), (76, 1, false, .iconst 0, 0, 0, 0, []),
  (77, 3, false, .putfield 52, 10, 7, 0, [0]), (80, 1, false, .aload_n 0, 0, 0, 0, []), (81, 3, false, .getfield 25, 10, 2, 2, [0]), (84, 3, false, .getfield 111, 6, 2, 2, [1]),
  (87, 3, false, .invokevirtual 115, 228, 1, 0, [0, 8]), (90, 1, false, .ireturn, 0, 0, 0, [])]
def k_OC_fault : List El := [(0, 1, false, .aload_n 0, 0, 0, 0, []), (1, 3, false, .getfield 38, 10, 4, 0, [0]), (4, 1, false, .ireturn, 0, 0, 0, [])]
def k_OC_told : List El := [(0, 1, false, .iload_n 1, 1, 0, 0, []), (1, 3, false, .ifCond .lt 13, 14, 0, 0, []), (4, 1, false, .iload_n 1, 1, 0, 0, []), (5, 2, false, .bipush 10, 10, 0, 0, []),
  (7, 3, false, .if_icmp .ge 7, 14, 0, 0, []), (10, 1, false, .iconst 1, 1, 0, 0, []), (11, 3, false, .goto 4, 15, 0, 0, []), (14, 1, false, .iconst 0, 0, 0, 0, []),
  (15, 3, false, .invokestatic 90, 32, 1, 1, [0]), (18, 1, false, .aload_n 0, 0, 0, 0, []), (19, 3, false, .getfield 25, 10, 2, 2, [0]), (22, 1, false, .iload_n 1, 1, 0, 0, []),
  (23, 3, false, .invokevirtual 120, 190, 2, 0, [0, 6]), (26, 1, false, .ireturn, 0, 0, 0, [])]
def k_OC_owner : List El := [(0, 1, false, .aload_n 0, 0, 0, 0, []), (1, 1, false, .iload_n 1, 1, 0, 0, []), (2, 3, false, .invokevirtual 123, 33, 2, 1, [0, 10]), (5, 1, false, .aload_n 0, 0, 0, 0, []),
  (6, 3, false, .getfield 25, 10, 2, 2, [0]), (9, 3, false, .getfield 111, 6, 2, 2, [1]), (12, 1, false, .iload_n 1, 1, 0, 0, []), (13, 1, false, .iconst 5, 5, 0, 0, []),
  (14, 3, false, .invokevirtual 126, 230, 3, 0, [0, 8]), (17, 1, false, .ireturn, 0, 0, 0, [])]
def k_OC_path : List El := [(0, 1, false, .aload_n 0, 0, 0, 0, []), (1, 1, false, .iload_n 1, 1, 0, 0, []), (2, 3, false, .invokevirtual 123, 33, 2, 1, [0, 10]), (5, 1, false, .iload_n 2, 2, 0, 0, []),
  (6, 3, false, .invokestatic 130, 35, 1, 0, [0]), (9, 3, false, .invokestatic 90, 32, 1, 1, [0]), (12, 1, false, .aload_n 0, 0, 0, 0, []), (13, 3, false, .getfield 25, 10, 2, 2, [0]),
  (16, 3, false, .getfield 134, 6, 5, 2, [1]), (19, 1, false, .iload_n 1, 1, 0, 0, []), (20, 1, false, .iload_n 2, 2, 0, 0, []), (21, 3, false, .invokevirtual 126, 230, 3, 0, [0, 8]),
  (24, 3, false, .invokestatic 137, 41, 1, 0, [0]), (27, 1, false, .ireturn, 0, 0, 0, [])]
def k_OC_field : List El := [(0, 1, false, .aload_n 0, 0, 0, 0, []), (1, 1, false, .iload_n 1, 1, 0, 0, []), (2, 3, false, .invokevirtual 140, 34, 2, 1, [0, 10]), (5, 1, false, .iload_n 2, 2, 0, 0, []),
  (6, 3, false, .ifCond .lt 13, 19, 0, 0, []), (9, 1, false, .iload_n 2, 2, 0, 0, []), (10, 2, false, .bipush 6, 6, 0, 0, []), (12, 3, false, .if_icmp .ge 7, 19, 0, 0, []),
  (15, 1, false, .iconst 1, 1, 0, 0, []), (16, 3, false, .goto 4, 20, 0, 0, []), (19, 1, false, .iconst 0, 0, 0, 0, []), (20, 3, false, .invokestatic 90, 32, 1, 1, [0]),
  (23, 1, false, .aload_n 0, 0, 0, 0, []), (24, 3, false, .getfield 25, 10, 2, 2, [0]), (27, 3, false, .getfield 143, 6, 3, 2, [1]), (30, 1, false, .iload_n 1, 1, 0, 0, []),
  (31, 1, false, .iload_n 2, 2, 0, 0, []), (32, 3, false, .invokevirtual 126, 230, 3, 0, [0, 8]), (35, 1, false, .ireturn, 0, 0, 0, [])]
def k_OC_order : List El := [(0, 1, false, .aload_n 0, 0, 0, 0, []), (1, 1, false, .iload_n 2, 2, 0, 0, []), (2, 3, false, .invokevirtual 123, 33, 2, 1, [0, 10]), (5, 1, false, .iload_n 1, 1, 0, 0, []),
  (6, 3, false, .invokestatic 130, 35, 1, 0, [0]), (9, 3, false, .ifCond .eq 16, 25, 0, 0, []), (12, 1, false, .iload_n 3, 3, 0, 0, []), (13, 2, false, .iload 4, 4, 0, 0, []),
  (15, 3, false, .invokestatic 146, 131, 2, 0, [0]), (18, 3, false, .ifCond .eq 7, 25, 0, 0, []), (21, 1, false, .iconst 1, 1, 0, 0, []), (22, 3, false, .goto 4, 26, 0, 0, []),
  (25, 1, false, .iconst 0, 0, 0, 0, []), (26, 3, false, .invokestatic 90, 32, 1, 1, [0]), (29, 1, false, .aload_n 0, 0, 0, 0, []), (30, 3, false, .getfield 44, 10, 5, 2, [0]),
  (33, 1, false, .iload_n 1, 1, 0, 0, []), (34, 1, false, .iload_n 2, 2, 0, 0, []), (35, 1, false, .iload_n 3, 3, 0, 0, []), (36, 2, false, .iload 4, 4, 0, 0, []),
  (38, 3, false, .invokevirtual 150, 132, 5, 0, [0, 0]), (41, 1, false, .ireturn, 0, 0, 0, [])]
def k_OC_clear : List El := [(0, 1, false, .aload_n 0, 0, 0, 0, []), (1, 3, false, .getfield 44, 10, 5, 2, [0]), (4, 3, false, .getfield 154, 0, 0, 2, [1]), (7, 3, false, .invokevirtual 115, 228, 1, 0, [0, 8]),
  (10, 1, false, .istore_n 1, 1, 0, 0, []), (11, 1, false, .aload_n 0, 0, 0, 0, []), (12, 3, false, .getfield 44, 10, 5, 2, [0]), (15, 3, false, .getfield 154, 0, 0, 2, [1]),
  (18, 3, false, .invokevirtual 157, 237, 1, 0, [0, 8]), (21, 1, false, .iload_n 1, 1, 0, 0, []), (22, 1, false, .ireturn, 0, 0, 0, [])]
def k_OC_day : List El := [(0, 1, false, .iload_n 2, 2, 0, 0, []), (1, 3, false, .ifCond .lt 13, 14, 0, 0, []), (4, 1, false, .iload_n 2, 2, 0, 0, []), (5, 2, false, .bipush 7, 7, 0, 0, []),
  (7, 3, false, .if_icmp .gt 7, 14, 0, 0, []), (10, 1, false, .iconst 1, 1, 0, 0, []), (11, 3, false, .goto 4, 15, 0, 0, []), (14, 1, false, .iconst 0, 0, 0, 0, []),
  (15, 3, false, .invokestatic 90, 32, 1, 1, [0]), (18, 1, false, .aload_n 0, 0, 0, 0, []), (19, 3, false, .getfield 60, 10, 8, 2, [0]), (22, 1, false, .iload_n 1, 1, 0, 0, []),
  (23, 2, false, .bipush 49, 49, 0, 0, []), (25, 3, false, .invokevirtual 160, 140, 3, 0, [0, 1]), (28, 1, false, .aload_n 0, 0, 0, 0, []), (29, 3, false, .getfield 60, 10, 8, 2, [0]),
  (32, 1, false, .iload_n 2, 2, 0, 0, []), (33, 3, false, .invokevirtual 164, 138, 2, 0, [0, 1]), (36, 1, false, .ireturn, 0, 0, 0, [])]
def k_OC_cloud : List El := [(0, 1, false, .aload_n 0, 0, 0, 0, []), (1, 1, false, .iload_n 2, 2, 0, 0, []), (2, 3, false, .invokevirtual 123, 33, 2, 1, [0, 10]), (5, 1, false, .iload_n 3, 3, 0, 0, []),
  (6, 3, false, .invokestatic 130, 35, 1, 0, [0]), (9, 3, false, .ifCond .eq 18, 27, 0, 0, []), (12, 2, false, .iload 4, 4, 0, 0, []), (14, 3, false, .ifCond .lt 13, 27, 0, 0, []),
  (17, 2, false, .iload 4, 4, 0, 0, []), (19, 1, false, .iconst 2, 2, 0, 0, []), (20, 3, false, .if_icmp .gt 7, 27, 0, 0, []), (23, 1, false, .iconst 1, 1, 0, 0, []),
  (24, 3, false, .goto 4, 28, 0, 0, []), (27, 1, false, .iconst 0, 0, 0, 0, []), (28, 3, false, .invokestatic 90, 32, 1, 1, [0]), (31, 1, false, .aload_n 0, 0, 0, 0, []),
  (32, 3, false, .getfield 60, 10, 8, 2, [0]), (35, 1, false, .iload_n 1, 1, 0, 0, []), (36, 1, false, .iload_n 3, 3, 0, 0, []), (37, 3, false, .invokevirtual 160, 140, 3, 0, [0, 1]),
  (40, 1, false, .aload_n 0, 0, 0, 0, []), (41, 3, false, .getfield 60, 10, 8, 2, [0]), (44, 1, false, .iload_n 2, 2, 0, 0, []), (45, 3, false, .invokevirtual 167, 137, 2, 0, [0, 1]),
  (48, 3, false, .ifCond .ne 5, 53, 0, 0, []), (51, 1, false, .iconst (-1), 1, 0, 1, []), (52, 1, false, .ireturn, 0, 0, 0, []), (53, 2, false, .iload 4, 4, 0, 0, []),
  (55, 25, false, .lookupswitch 49 #[(0, 25), (1, 37)], 104, 0, 0, [0, 80, 1, 92]), (80, 1, false, .aload_n 0, 0, 0, 0, []), (81, 3, false, .getfield 60, 10, 8, 2, [0]), (84, 3, false, .getfield 170, 1, 4, 2, [1]),
  (87, 1, false, .iload_n 2, 2, 0, 0, []), (88, 3, false, .invokevirtual 173, 234, 2, 0, [0, 8]), (91, 1, false, .ireturn, 0, 0, 0, []), (92, 1, false, .aload_n 0, 0, 0, 0, []),
  (93, 3, false, .getfield 60, 10, 8, 2, [0]), (96, 3, false, .getfield 170, 1, 4, 2, [1]), (99, 1, false, .iload_n 2, 2, 0, 0, []), (100, 3, false, .invokevirtual 176, 235, 2, 0, [0, 8]),
  (103, 1, false, .ireturn, 0, 0, 0, []), (104, 1, false, .aload_n 0, 0, 0, 0, []), (105, 3, false, .getfield 60, 10, 8, 2, [0]), (108, 3, false, .getfield 179, 1, 3, 2, [1]),
  (111, 1, false, .iload_n 2, 2, 0, 0, []), (112, 3, false, .invokevirtual 182, 182, 2, 0, [0, 5]), (115, 3, false, .invokestatic 137, 41, 1, 0, [0]), (118, 1, false, .ireturn, 0, 0, 0, [])]
def k_OC_part : List El := [(0, 1, false, .aload_n 0, 0, 0, 0, []), (1, 1, false, .iload_n 2, 2, 0, 0, []), (2, 3, false, .invokevirtual 123, 33, 2, 1, [0, 10]), (5, 1, false, .iload_n 3, 3, 0, 0, []),
  (6, 3, false, .invokestatic 130, 35, 1, 0, [0]), (9, 3, false, .ifCond .eq 15, 24, 0, 0, []), (12, 2, false, .iload 4, 4, 0, 0, []), (14, 3, false, .invokestatic 184, 36, 1, 0, [0]),
  (17, 3, false, .ifCond .eq 7, 24, 0, 0, []), (20, 1, false, .iconst 1, 1, 0, 0, []), (21, 3, false, .goto 4, 25, 0, 0, []), (24, 1, false, .iconst 0, 0, 0, 0, []),
  (25, 3, false, .invokestatic 90, 32, 1, 1, [0]), (28, 1, false, .aload_n 0, 0, 0, 0, []), (29, 3, false, .getfield 60, 10, 8, 2, [0]), (32, 1, false, .iload_n 1, 1, 0, 0, []),
  (33, 1, false, .iload_n 3, 3, 0, 0, []), (34, 3, false, .invokevirtual 160, 140, 3, 0, [0, 1]), (37, 1, false, .aload_n 0, 0, 0, 0, []), (38, 3, false, .getfield 60, 10, 8, 2, [0]),
  (41, 1, false, .iload_n 2, 2, 0, 0, []), (42, 3, false, .invokevirtual 167, 137, 2, 0, [0, 1]), (45, 3, false, .ifCond .eq 19, 64, 0, 0, []), (48, 1, false, .aload_n 0, 0, 0, 0, []),
  (49, 3, false, .getfield 60, 10, 8, 2, [0]), (52, 3, false, .getfield 170, 1, 4, 2, [1]), (55, 1, false, .iload_n 2, 2, 0, 0, []), (56, 2, false, .iload 4, 4, 0, 0, []),
  (58, 3, false, .invokevirtual 126, 230, 3, 0, [0, 8]), (61, 3, false, .goto 4, 65, 0, 0, []), (64, 1, false, .iconst 0, 0, 0, 0, []), (65, 1, false, .ireturn, 0, 0, 0, [])]
def k_OC_account : List El := [(0, 1, false, .iload_n 2, 2, 0, 0, []), (1, 3, false, .invokestatic 184, 36, 1, 0, [0]), (4, 3, false, .ifCond .eq 16, 20, 0, 0, []), (7, 1, false, .iload_n 3, 3, 0, 0, []),
  (8, 3, false, .ifCond .lt 12, 20, 0, 0, []), (11, 1, false, .iload_n 3, 3, 0, 0, []), (12, 1, false, .iconst 2, 2, 0, 0, []), (13, 3, false, .if_icmp .gt 7, 20, 0, 0, []),
  (16, 1, false, .iconst 1, 1, 0, 0, []), (17, 3, false, .goto 4, 21, 0, 0, []), (20, 1, false, .iconst 0, 0, 0, 0, []), (21, 3, false, .invokestatic 90, 32, 1, 1, [0]),
  (24, 1, false, .aload_n 0, 0, 0, 0, []), (25, 3, false, .getfield 60, 10, 8, 2, [0]), (28, 1, false, .iload_n 1, 1, 0, 0, []), (29, 2, false, .bipush 49, 49, 0, 0, []),
  (31, 3, false, .invokevirtual 160, 140, 3, 0, [0, 1]), (34, 1, false, .aload_n 0, 0, 0, 0, []), (35, 3, false, .getfield 60, 10, 8, 2, [0]), (38, 3, false, .getfield 187, 1, 2, 2, [1]),
  (41, 3, false, .getfield 191, 2, 3, 2, [1]), (44, 1, false, .iload_n 2, 2, 0, 0, []), (45, 1, false, .iload_n 3, 3, 0, 0, []), (46, 3, false, .invokevirtual 126, 230, 3, 0, [0, 8]),
  (49, 1, false, .ireturn, 0, 0, 0, [])]
def k_OC_farmer : List El := [(0, 1, false, .iload_n 2, 2, 0, 0, []), (1, 3, false, .invokestatic 196, 37, 1, 0, [0]), (4, 3, false, .ifCond .eq 14, 18, 0, 0, []), (7, 1, false, .iload_n 3, 3, 0, 0, []),
  (8, 3, false, .invokestatic 199, 39, 1, 0, [0]), (11, 3, false, .ifCond .eq 7, 18, 0, 0, []), (14, 1, false, .iconst 1, 1, 0, 0, []), (15, 3, false, .goto 4, 19, 0, 0, []),
  (18, 1, false, .iconst 0, 0, 0, 0, []), (19, 3, false, .invokestatic 90, 32, 1, 1, [0]), (22, 1, false, .aload_n 0, 0, 0, 0, []), (23, 3, false, .getfield 60, 10, 8, 2, [0]),
  (26, 1, false, .iload_n 1, 1, 0, 0, []), (27, 2, false, .bipush 49, 49, 0, 0, []), (29, 3, false, .invokevirtual 160, 140, 3, 0, [0, 1]), (32, 1, false, .aload_n 0, 0, 0, 0, []),
  (33, 3, false, .getfield 60, 10, 8, 2, [0]), (36, 3, false, .getfield 187, 1, 2, 2, [1]), (39, 3, false, .getfield 202, 2, 4, 2, [1]), (42, 1, false, .iload_n 2, 2, 0, 0, []),
  (43, 1, false, .iload_n 3, 3, 0, 0, []), (44, 3, false, .invokevirtual 126, 230, 3, 0, [0, 8]), (47, 1, false, .ireturn, 0, 0, 0, [])]
def k_OC_after : List El := [(0, 1, false, .aload_n 0, 0, 0, 0, []), (1, 1, false, .iload_n 2, 2, 0, 0, []), (2, 3, false, .invokevirtual 140, 34, 2, 1, [0, 10]), (5, 1, false, .iload_n 3, 3, 0, 0, []),
  (6, 3, false, .ifCond .lt 12, 18, 0, 0, []), (9, 1, false, .iload_n 3, 3, 0, 0, []), (10, 1, false, .iconst 2, 2, 0, 0, []), (11, 3, false, .if_icmp .gt 7, 18, 0, 0, []),
  (14, 1, false, .iconst 1, 1, 0, 0, []), (15, 3, false, .goto 4, 19, 0, 0, []), (18, 1, false, .iconst 0, 0, 0, 0, []), (19, 3, false, .invokestatic 90, 32, 1, 1, [0]),
  (22, 1, false, .aload_n 0, 0, 0, 0, []), (23, 3, false, .getfield 60, 10, 8, 2, [0]), (26, 1, false, .iload_n 1, 1, 0, 0, []), (27, 2, false, .bipush 49, 49, 0, 0, []),
  (29, 3, false, .invokevirtual 160, 140, 3, 0, [0, 1]), (32, 1, false, .aload_n 0, 0, 0, 0, []), (33, 3, false, .getfield 60, 10, 8, 2, [0]), (36, 3, false, .getfield 187, 1, 2, 2, [1]),
  (39, 3, false, .getfield 205, 2, 5, 2, [1]), (42, 1, false, .iload_n 2, 2, 0, 0, []), (43, 1, false, .iload_n 3, 3, 0, 0, []), (44, 3, false, .invokevirtual 126, 230, 3, 0, [0, 8]),
  (47, 1, false, .ireturn, 0, 0, 0, [])]
def k_OC_worth : List El := [(0, 1, false, .iload_n 1, 1, 0, 0, []), (1, 1, false, .aload_n 0, 0, 0, 0, []), (2, 3, false, .getfield 25, 10, 2, 2, [0]), (5, 3, false, .getfield 111, 6, 2, 2, [1]),
  (8, 3, false, .invokevirtual 115, 228, 1, 0, [0, 8]), (11, 1, false, .iushr, 0, 0, 0, []), (12, 3, false, .ifCond .ne 7, 19, 0, 0, []), (15, 1, false, .iconst 1, 1, 0, 0, []),
  (16, 3, false, .goto 4, 20, 0, 0, []), (19, 1, false, .iconst 0, 0, 0, 0, []), (20, 3, false, .invokestatic 90, 32, 1, 1, [0]), (23, 1, false, .aload_n 0, 0, 0, 0, []),
  (24, 3, false, .getfield 69, 10, 9, 2, [0]), (27, 3, false, .invokevirtual 206, 243, 1, 0, [0, 9]), (30, 1, false, .aload_n 0, 0, 0, 0, []), (31, 3, false, .getfield 69, 10, 9, 2, [0]),
  (34, 1, false, .iload_n 1, 1, 0, 0, []), (35, 3, false, .invokevirtual 209, 244, 2, 0, [0, 9]), (38, 1, false, .ireturn, 0, 0, 0, [])]
def k_OC_share : List El := [(0, 1, false, .aload_n 0, 0, 0, 0, []), (1, 1, false, .iload_n 1, 1, 0, 0, []), (2, 3, false, .invokevirtual 123, 33, 2, 1, [0, 10]), (5, 1, false, .iload_n 2, 2, 0, 0, []),
  (6, 3, false, .invokestatic 199, 39, 1, 0, [0]), (9, 3, false, .invokestatic 90, 32, 1, 1, [0]), (12, 1, false, .aload_n 0, 0, 0, 0, []), (13, 3, false, .getfield 25, 10, 2, 2, [0]),
  (16, 3, false, .getfield 111, 6, 2, 2, [1]), (19, 3, false, .invokevirtual 115, 228, 1, 0, [0, 8]), (22, 2, false, .bipush 6, 6, 0, 0, []), (24, 3, false, .if_icmp .le 7, 31, 0, 0, []),
  (27, 3, false, .ldc2_w 212, 1, 0, 1, []), (30, 1, false, .lreturn, 0, 0, 0, []), (31, 1, false, .aload_n 0, 0, 0, 0, []), (32, 3, false, .getfield 69, 10, 9, 2, [0]),
  (35, 1, false, .iload_n 1, 1, 0, 0, []), (36, 3, false, .invokevirtual 214, 250, 2, 0, [0, 9]), (39, 1, false, .iload_n 2, 2, 0, 0, []), (40, 3, false, .ifCond .ne 13, 53, 0, 0, []),
  (43, 1, false, .aload_n 0, 0, 0, 0, []), (44, 3, false, .getfield 69, 10, 9, 2, [0]), (47, 3, false, .invokevirtual 217, 241, 1, 0, [0, 9]), (50, 3, false, .goto 10, 60, 0, 0, []),
  (53, 1, false, .aload_n 0, 0, 0, 0, []), (54, 3, false, .getfield 69, 10, 9, 2, [0]), (57, 3, false, .invokevirtual 221, 242, 1, 0, [0, 9]), (60, 1, false, .lreturn, 0, 0, 0, [])]
def k_OC_bid : List El := [(0, 1, false, .iload_n 1, 1, 0, 0, []), (1, 3, false, .invokestatic 196, 37, 1, 0, [0]), (4, 3, false, .ifCond .eq 29, 33, 0, 0, []), (7, 1, false, .iload_n 2, 2, 0, 0, []),
  (8, 1, false, .iconst 1, 1, 0, 0, []), (9, 3, false, .if_icmp .lt 24, 33, 0, 0, []), (12, 1, false, .iload_n 2, 2, 0, 0, []), (13, 3, false, .sipush 999, 999, 0, 0, []),
  (16, 3, false, .if_icmp .gt 17, 33, 0, 0, []), (19, 1, false, .iload_n 3, 3, 0, 0, []), (20, 3, false, .ifCond .lt 13, 33, 0, 0, []), (23, 1, false, .iload_n 3, 3, 0, 0, []),
  (24, 2, false, .bipush 99, 99, 0, 0, []), (26, 3, false, .if_icmp .gt 7, 33, 0, 0, []), (29, 1, false, .iconst 1, 1, 0, 0, []), (30, 3, false, .goto 4, 34, 0, 0, []),
  (33, 1, false, .iconst 0, 0, 0, 0, []), (34, 3, false, .invokestatic 90, 32, 1, 1, [0]), (37, 1, false, .aload_n 0, 0, 0, 0, []), (38, 3, false, .getfield 44, 10, 5, 2, [0]),
  (41, 1, false, .iload_n 1, 1, 0, 0, []), (42, 1, false, .iload_n 2, 2, 0, 0, []), (43, 1, false, .iload_n 3, 3, 0, 0, []), (44, 3, false, .invokevirtual 224, 133, 4, 0, [0, 0]),
  (47, 1, false, .ireturn, 0, 0, 0, [])]
def k_OC_forget : List El := [(0, 1, false, .aload_n 0, 0, 0, 0, []), (1, 3, false, .getfield 44, 10, 5, 2, [0]), (4, 3, false, .getfield 228, 0, 1, 2, [1]), (7, 3, false, .invokevirtual 115, 228, 1, 0, [0, 8]),
  (10, 1, false, .istore_n 1, 1, 0, 0, []), (11, 1, false, .aload_n 0, 0, 0, 0, []), (12, 3, false, .getfield 44, 10, 5, 2, [0]), (15, 3, false, .getfield 228, 0, 1, 2, [1]),
  (18, 3, false, .invokevirtual 157, 237, 1, 0, [0, 8]), (21, 1, false, .iload_n 1, 1, 0, 0, []), (22, 1, false, .ireturn, 0, 0, 0, [])]
def k_OC_gets : List El := [(0, 1, false, .iload_n 2, 2, 0, 0, []), (1, 3, false, .ifCond .lt 17, 18, 0, 0, []), (4, 1, false, .iload_n 2, 2, 0, 0, []), (5, 1, false, .aload_n 0, 0, 0, 0, []),
  (6, 3, false, .getfield 44, 10, 5, 2, [0]), (9, 3, false, .getfield 228, 0, 1, 2, [1]), (12, 3, false, .invokevirtual 115, 228, 1, 0, [0, 8]), (15, 3, false, .if_icmp .lt 13, 28, 0, 0, []),
  (18, 3, false, .new 231, 2, 0, 1, []), (21, 1, false, .dup, 0, 0, 0, []), (22, 2, false, .ldc 233, 9, 0, 1, []), (24, 3, false, .invokespecial 235, 0, 0, 8, []),
  (27, 1, false, .athrow, 0, 0, 0, []), (28, 1, false, .iload_n 1, 1, 0, 0, []), (29, 3, false, .invokestatic 238, 38, 1, 0, [0]), (32, 3, false, .invokestatic 90, 32, 1, 1, [0]),
  (35, 1, false, .aload_n 0, 0, 0, 0, []), (36, 3, false, .getfield 76, 10, 10, 2, [0]), (39, 1, false, .iload_n 1, 1, 0, 0, []), (40, 3, false, .invokevirtual 241, 176, 2, 0, [0, 4]),
  (43, 1, false, .aload_n 0, 0, 0, 0, []), (44, 3, false, .getfield 76, 10, 10, 2, [0]), (47, 3, false, .getfield 244, 4, 3, 2, [1]), (50, 1, false, .iload_n 2, 2, 0, 0, []),
  (51, 3, false, .invokevirtual 182, 182, 2, 0, [0, 5]), (54, 1, false, .ireturn, 0, 0, 0, [])]
def k_OC_settled : List El := [(0, 1, false, .iload_n 1, 1, 0, 0, []), (1, 3, false, .invokestatic 238, 38, 1, 0, [0]), (4, 3, false, .ifCond .eq 14, 18, 0, 0, []), (7, 1, false, .iload_n 2, 2, 0, 0, []),
  (8, 3, false, .invokestatic 199, 39, 1, 0, [0]), (11, 3, false, .ifCond .eq 7, 18, 0, 0, []), (14, 1, false, .iconst 1, 1, 0, 0, []), (15, 3, false, .goto 4, 19, 0, 0, []),
  (18, 1, false, .iconst 0, 0, 0, 0, []), (19, 3, false, .invokestatic 90, 32, 1, 1, [0]), (22, 1, false, .aload_n 0, 0, 0, 0, []), (23, 3, false, .getfield 76, 10, 10, 2, [0]),
  (26, 1, false, .iload_n 1, 1, 0, 0, []), (27, 3, false, .invokevirtual 241, 176, 2, 0, [0, 4]), (30, 1, false, .iload_n 2, 2, 0, 0, []), (31, 3, false, .ifCond .ne 13, 44, 0, 0, []),
  (34, 1, false, .aload_n 0, 0, 0, 0, []), (35, 3, false, .getfield 76, 10, 10, 2, [0]), (38, 3, false, .invokevirtual 247, 174, 1, 0, [0, 4]), (41, 3, false, .goto 10, 51, 0, 0, []),
  (44, 1, false, .aload_n 0, 0, 0, 0, []), (45, 3, false, .getfield 76, 10, 10, 2, [0]), (48, 3, false, .invokevirtual 250, 175, 1, 0, [0, 4]), (51, 1, false, .ireturn, 0, 0, 0, [])]
def k_OC_drought : List El := [(0, 1, false, .aload_n 0, 0, 0, 0, []), (1, 1, false, .iload_n 2, 2, 0, 0, []), (2, 3, false, .invokevirtual 140, 34, 2, 1, [0, 10]), (5, 1, false, .iload_n 1, 1, 0, 0, []),
  (6, 3, false, .invokestatic 238, 38, 1, 0, [0]), (9, 3, false, .invokestatic 90, 32, 1, 1, [0]), (12, 1, false, .aload_n 0, 0, 0, 0, []), (13, 3, false, .getfield 76, 10, 10, 2, [0]),
  (16, 1, false, .iload_n 1, 1, 0, 0, []), (17, 3, false, .invokevirtual 253, 178, 2, 0, [0, 4]), (20, 1, false, .aload_n 0, 0, 0, 0, []), (21, 3, false, .getfield 76, 10, 10, 2, [0]),
  (24, 3, false, .getfield 256, 4, 4, 2, [1]), (27, 1, false, .iload_n 2, 2, 0, 0, []), (28, 3, false, .invokevirtual 182, 182, 2, 0, [0, 5]), (31, 1, false, .ireturn, 0, 0, 0, [])]
def k_OC_gauge : List El := [(0, 1, false, .iload_n 1, 1, 0, 0, []), (1, 3, false, .ifCond .lt 42, 43, 0, 0, []), (4, 1, false, .iload_n 1, 1, 0, 0, []), (5, 1, false, .aload_n 0, 0, 0, 0, []),
  (6, 3, false, .getfield 25, 10, 2, 2, [0]), (9, 1, false, .iconst 0, 0, 0, 0, []), (10, 3, false, .invokevirtual 120, 190, 2, 0, [0, 6]), (13, 3, false, .if_icmp .ge 30, 43, 0, 0, []),
  (16, 1, false, .iload_n 2, 2, 0, 0, []), (17, 3, false, .ifCond .lt 26, 43, 0, 0, []), (20, 1, false, .iload_n 2, 2, 0, 0, []), (21, 1, false, .aload_n 0, 0, 0, 0, []),
  (22, 3, false, .getfield 25, 10, 2, 2, [0]), (25, 1, false, .iconst 1, 1, 0, 0, []), (26, 3, false, .invokevirtual 120, 190, 2, 0, [0, 6]), (29, 3, false, .if_icmp .ge 14, 43, 0, 0, []),
  (32, 1, false, .iload_n 3, 3, 0, 0, []), (33, 3, false, .invokestatic 238, 38, 1, 0, [0]), (36, 3, false, .ifCond .eq 7, 43, 0, 0, []), (39, 1, false, .iconst 1, 1, 0, 0, []),
  (40, 3, false, .goto 4, 44, 0, 0, []), (43, 1, false, .iconst 0, 0, 0, 0, []), (44, 3, false, .invokestatic 90, 32, 1, 1, [0]), (47, 1, false, .aload_n 0, 0, 0, 0, []),
  (48, 3, false, .getfield 44, 10, 5, 2, [0]), (51, 1, false, .iload_n 1, 1, 0, 0, []), (52, 1, false, .iload_n 2, 2, 0, 0, []), (53, 1, false, .iload_n 3, 3, 0, 0, []),
  (54, 3, false, .invokevirtual 259, 134, 4, 0, [0, 0]), (57, 1, false, .ireturn, 0, 0, 0, [])]
def k_OC_away : List El := [(0, 1, false, .aload_n 0, 0, 0, 0, []), (1, 3, false, .getfield 44, 10, 5, 2, [0]), (4, 3, false, .getfield 262, 0, 2, 2, [1]), (7, 3, false, .invokevirtual 115, 228, 1, 0, [0, 8]),
  (10, 1, false, .istore_n 1, 1, 0, 0, []), (11, 1, false, .aload_n 0, 0, 0, 0, []), (12, 3, false, .getfield 44, 10, 5, 2, [0]), (15, 3, false, .getfield 262, 0, 2, 2, [1]),
  (18, 3, false, .invokevirtual 157, 237, 1, 0, [0, 8]), (21, 1, false, .iload_n 1, 1, 0, 0, []), (22, 1, false, .ireturn, 0, 0, 0, [])]
def k_OC_explain : List El := [(0, 1, false, .iload_n 1, 1, 0, 0, []), (1, 3, false, .ifCond .lt 12, 13, 0, 0, []), (4, 1, false, .iload_n 1, 1, 0, 0, []), (5, 1, false, .iconst 2, 2, 0, 0, []),
  (6, 3, false, .if_icmp .gt 7, 13, 0, 0, []), (9, 1, false, .iconst 1, 1, 0, 0, []), (10, 3, false, .goto 4, 14, 0, 0, []), (13, 1, false, .iconst 0, 0, 0, 0, []),
  (14, 3, false, .invokestatic 90, 32, 1, 1, [0]), (17, 1, false, .iload_n 1, 1, 0, 0, []), (18, 1, false, .iconst 2, 2, 0, 0, []), (19, 3, false, .if_icmp .ne 11, 30, 0, 0, []),
  (22, 1, false, .aload_n 0, 0, 0, 0, []), (23, 3, false, .getfield 83, 10, 11, 2, [0]), (26, 3, false, .invokevirtual 265, 167, 1, 0, [0, 3]), (29, 1, false, .ireturn, 0, 0, 0, []),
  (30, 1, false, .aload_n 0, 0, 0, 0, []), (31, 3, false, .getfield 83, 10, 11, 2, [0]), (34, 1, false, .iconst (-1), 1, 0, 1, []), (35, 3, false, .invokevirtual 268, 169, 2, 0, [0, 3]),
  (38, 1, false, .iload_n 1, 1, 0, 0, []), (39, 3, false, .ifCond .ne 13, 52, 0, 0, []), (42, 1, false, .aload_n 0, 0, 0, 0, []), (43, 3, false, .getfield 83, 10, 11, 2, [0]),
  (46, 3, false, .invokevirtual 271, 165, 1, 0, [0, 3]), (49, 3, false, .goto 10, 59, 0, 0, []), (52, 1, false, .aload_n 0, 0, 0, 0, []), (53, 3, false, .getfield 83, 10, 11, 2, [0]),
  (56, 3, false, .invokevirtual 274, 166, 1, 0, [0, 3]), (59, 1, false, .ireturn, 0, 0, 0, [])]
def k_OC_doubt : List El := [(0, 1, false, .aload_n 0, 0, 0, 0, []), (1, 1, false, .iload_n 1, 1, 0, 0, []), (2, 3, false, .invokevirtual 123, 33, 2, 1, [0, 10]), (5, 1, false, .iload_n 2, 2, 0, 0, []),
  (6, 3, false, .invokestatic 130, 35, 1, 0, [0]), (9, 3, false, .invokestatic 90, 32, 1, 1, [0]), (12, 1, false, .aload_n 0, 0, 0, 0, []), (13, 3, false, .getfield 25, 10, 2, 2, [0]),
  (16, 1, false, .iload_n 1, 1, 0, 0, []), (17, 1, false, .iload_n 2, 2, 0, 0, []), (18, 3, false, .invokevirtual 277, 200, 3, 0, [0, 6]), (21, 1, false, .lreturn, 0, 0, 0, [])]
def k_OC_worst : List El := [(0, 1, false, .aload_n 0, 0, 0, 0, []), (1, 1, false, .iload_n 1, 1, 0, 0, []), (2, 3, false, .invokevirtual 123, 33, 2, 1, [0, 10]), (5, 1, false, .iload_n 2, 2, 0, 0, []),
  (6, 3, false, .invokestatic 130, 35, 1, 0, [0]), (9, 3, false, .invokestatic 90, 32, 1, 1, [0]), (12, 1, false, .aload_n 0, 0, 0, 0, []), (13, 3, false, .getfield 25, 10, 2, 2, [0]),
  (16, 1, false, .aload_n 0, 0, 0, 0, []), (17, 3, false, .getfield 25, 10, 2, 2, [0]), (20, 1, false, .iload_n 1, 1, 0, 0, []), (21, 1, false, .iload_n 2, 2, 0, 0, []),
  (22, 3, false, .invokevirtual 277, 200, 3, 0, [0, 6]), (25, 3, false, .invokevirtual 281, 204, 2, 0, [0, 6]), (28, 1, false, .ireturn, 0, 0, 0, [])]
def k_OC_image : List El := [(0, 1, false, .aload_n 0, 0, 0, 0, []), (1, 3, false, .getfield 52, 10, 7, 0, [0]), (4, 3, false, .ifCond .lt 23, 27, 0, 0, []), (7, 1, false, .aload_n 0, 0, 0, 0, []),
  (8, 3, false, .getfield 52, 10, 7, 0, [0]), (11, 1, false, .iconst 3, 3, 0, 0, []), (12, 3, false, .if_icmp .ge 15, 27, 0, 0, []), (15, 1, false, .aload_n 0, 0, 0, 0, []),
  (16, 3, false, .getfield 52, 10, 7, 0, [0]), (19, 1, false, .aload_n 0, 0, 0, 0, []), (20, 3, false, .getfield 48, 10, 6, 2, [0]), (23, 1, false, .arraylength, 0, 0, 0, []),
  (24, 3, false, .if_icmp .lt 5, 29, 0, 0, []), (27, 1, false, .iconst (-1), 1, 0, 1, []), (28, 1, false, .ireturn, 0, 0, 0, []), (29, 1, false, .aload_n 0, 0, 0, 0, []),
  (30, 3, false, .getfield 48, 10, 6, 2, [0]), (33, 1, false, .aload_n 0, 0, 0, 0, []), (34, 3, false, .getfield 52, 10, 7, 0, [0]), (37, 1, false, .aaload, 0, 0, 0, []),
  (38, 1, false, .astore_n 1, 1, 0, 0, []), (39, 1, false, .aload_n 1, 1, 0, 0, []), (40, 3, false, .ifnonnull 5, 45, 0, 0, []), (43, 1, false, .iconst (-1), 1, 0, 1, []),
  (44, 1, false, .ireturn, 0, 0, 0, []), (45, 1, false, .aload_n 1, 1, 0, 0, []), (46, 1, false, .aload_n 0, 0, 0, 0, []), (47, 3, false, .getfield 44, 10, 5, 2, [0]),
  (50, 3, false, .invokevirtual 285, 130, 2, 0, [0, 0]), (53, 1, false, .aload_n 0, 0, 0, 0, []), (54, 1, false, .dup, 0, 0, 0, []), (55, 3, false, .getfield 52, 10, 7, 0, [0]),
  (58, 1, false, .iconst 1, 1, 0, 0, []), (59, 1, false, .iadd, 0, 0, 0, []), (60, 3, false, .putfield 52, 10, 7, 0, [0]), (63, 1, false, .aload_n 0, 0, 0, 0, []),
  (64, 3, false, .getfield 52, 10, 7, 0, [0]), (67, 1, false, .ireturn, 0, 0, 0, [])]
def k_OC_restore : List El := [(0, 1, false, .aload_n 0, 0, 0, 0, []), (1, 3, false, .getfield 52, 10, 7, 0, [0]), (4, 1, false, .iconst 1, 1, 0, 0, []), (5, 1, false, .isub, 0, 0, 0, []),
  (6, 1, false, .istore_n 1, 1, 0, 0, []), (7, 1, false, .iload_n 1, 1, 0, 0, []), (8, 3, false, .ifCond .lt 12, 20, 0, 0, []), (11, 1, false, .iload_n 1, 1, 0, 0, []),
  (12, 1, false, .aload_n 0, 0, 0, 0, []), (13, 3, false, .getfield 48, 10, 6, 2, [0]), (16, 1, false, .arraylength, 0, 0, 0, []), (17, 3, false, .if_icmp .lt 5, 22, 0, 0, []),
  (20, 1, false, .iconst (-1), 1, 0, 1, []), (21, 1, false, .ireturn, 0, 0, 0, []), (22, 1, false, .aload_n 0, 0, 0, 0, []), (23, 3, false, .getfield 48, 10, 6, 2, [0]),
  (26, 1, false, .iload_n 1, 1, 0, 0, []), (27, 1, false, .aaload, 0, 0, 0, []), (28, 1, false, .astore_n 2, 2, 0, 0, []), (29, 1, false, .aload_n 2, 2, 0, 0, []),
  (30, 3, false, .ifnonnull 5, 35, 0, 0, []), (33, 1, false, .iconst (-1), 1, 0, 1, []), (34, 1, false, .ireturn, 0, 0, 0, []), (35, 1, false, .aload_n 0, 0, 0, 0, []),
  (36, 3, false, .getfield 44, 10, 5, 2, [0]), (39, 1, false, .aload_n 2, 2, 0, 0, []), (40, 3, false, .invokevirtual 285, 130, 2, 0, [0, 0]), (43, 1, false, .aload_n 0, 0, 0, 0, []),
  (44, 1, false, .iload_n 1, 1, 0, 0, []), (45, 3, false, .putfield 52, 10, 7, 0, [0]), (48, 1, false, .aload_n 0, 0, 0, 0, []), (49, 3, false, .getfield 52, 10, 7, 0, [0]),
  (52, 1, false, .ireturn, 0, 0, 0, [])]
def k_OC_count : List El := [(0, 1, false, .iload_n 1, 1, 0, 0, []), (1, 35, false, .tableswitch 78 0 4 #[35, 46, 57, 68, 73], 79, 0, 0, [36, 47, 58, 69, 74]), (36, 1, false, .aload_n 0, 0, 0, 0, []), (37, 3, false, .getfield 44, 10, 5, 2, [0]),
  (40, 3, false, .getfield 154, 0, 0, 2, [1]), (43, 3, false, .invokevirtual 115, 228, 1, 0, [0, 8]), (46, 1, false, .ireturn, 0, 0, 0, []), (47, 1, false, .aload_n 0, 0, 0, 0, []),
  (48, 3, false, .getfield 44, 10, 5, 2, [0]), (51, 3, false, .getfield 228, 0, 1, 2, [1]), (54, 3, false, .invokevirtual 115, 228, 1, 0, [0, 8]), (57, 1, false, .ireturn, 0, 0, 0, []),
  (58, 1, false, .aload_n 0, 0, 0, 0, []), (59, 3, false, .getfield 44, 10, 5, 2, [0]), (62, 3, false, .getfield 262, 0, 2, 2, [1]), (65, 3, false, .invokevirtual 115, 228, 1, 0, [0, 8]),
  (68, 1, false, .ireturn, 0, 0, 0, []), (69, 1, false, .aload_n 0, 0, 0, 0, []), (70, 3, false, .getfield 52, 10, 7, 0, [0]), (73, 1, false, .ireturn, 0, 0, 0, []),
  (74, 1, false, .aload_n 0, 0, 0, 0, []), (75, 3, false, .getfield 18, 10, 1, 0, [0]), (78, 1, false, .ireturn, 0, 0, 0, []), (79, 1, false, .iconst (-1), 1, 0, 1, []),
  (80, 1, false, .ireturn, 0, 0, 0, [])]
def k_OC_putNumber : List El := [(0, 2, false, .bipush 24, 24, 0, 0, []), (2, 1, false, .istore_n 2, 2, 0, 0, []), (3, 1, true, .iload_n 2, 2, 0, 0, []), (4, 3, false, .ifCond .lt 37, 41, 0, 0, []),
  (7, 1, false, .aload_n 0, 0, 0, 0, []), (8, 3, false, .getfield 14, 10, 0, 2, [0]), (11, 1, false, .aload_n 0, 0, 0, 0, []), (12, 3, false, .getfield 18, 10, 1, 0, [0]),
  (15, 1, false, .iload_n 1, 1, 0, 0, []), (16, 1, false, .iload_n 2, 2, 0, 0, []), (17, 1, false, .iushr, 0, 0, 0, []), (18, 3, false, .sipush 255, 255, 0, 0, []),
  (21, 1, false, .iand, 0, 0, 0, []), (22, 3, false, .invokevirtual 288, 183, 3, 0, [0, 5]), (25, 1, false, .aload_n 0, 0, 0, 0, []), (26, 1, false, .dup, 0, 0, 0, []),
  (27, 3, false, .getfield 18, 10, 1, 0, [0]), (30, 1, false, .iconst 1, 1, 0, 0, []), (31, 1, false, .iadd, 0, 0, 0, []), (32, 3, false, .putfield 18, 10, 1, 0, [0]),
  (35, 3, false, .iinc 2 (-8), 2, 8, 1, []), (38, 3, false, .goto (-35), 3, 0, 0, []), (41, 1, false, .return_, 0, 0, 0, [])]
def k_OC_need : List El := [(0, 1, false, .iload_n 0, 0, 0, 0, []), (1, 3, false, .ifCond .ne 14, 15, 0, 0, []), (4, 3, false, .new 291, 0, 0, 1, []), (7, 1, false, .dup, 0, 0, 0, []),
  (8, 3, false, .ldc_w 293, 1, 0, 1, []), (11, 3, false, .invokespecial 295, 0, 0, 8, []), (14, 1, false, .athrow, 0, 0, 0, []), (15, 1, false, .return_, 0, 0, 0, [])]
def k_OC_needCloud : List El := [(0, 1, false, .iload_n 1, 1, 0, 0, []), (1, 3, false, .ifCond .lt 17, 18, 0, 0, []), (4, 1, false, .iload_n 1, 1, 0, 0, []), (5, 1, false, .aload_n 0, 0, 0, 0, []),
  (6, 3, false, .getfield 25, 10, 2, 2, [0]), (9, 3, false, .getfield 111, 6, 2, 2, [1]), (12, 3, false, .invokevirtual 115, 228, 1, 0, [0, 8]), (15, 3, false, .if_icmp .lt 14, 29, 0, 0, []),
  (18, 3, false, .new 296, 1, 0, 1, []), (21, 1, false, .dup, 0, 0, 0, []), (22, 3, false, .ldc_w 298, 10, 0, 1, []), (25, 3, false, .invokespecial 300, 0, 0, 8, []),
  (28, 1, false, .athrow, 0, 0, 0, []), (29, 1, false, .return_, 0, 0, 0, [])]
def k_OC_needField : List El := [(0, 1, false, .iload_n 1, 1, 0, 0, []), (1, 3, false, .ifCond .lt 17, 18, 0, 0, []), (4, 1, false, .iload_n 1, 1, 0, 0, []), (5, 1, false, .aload_n 0, 0, 0, 0, []),
  (6, 3, false, .getfield 25, 10, 2, 2, [0]), (9, 3, false, .getfield 143, 6, 3, 2, [1]), (12, 3, false, .invokevirtual 115, 228, 1, 0, [0, 8]), (15, 3, false, .if_icmp .lt 14, 29, 0, 0, []),
  (18, 3, false, .new 231, 2, 0, 1, []), (21, 1, false, .dup, 0, 0, 0, []), (22, 3, false, .ldc_w 301, 11, 0, 1, []), (25, 3, false, .invokespecial 235, 0, 0, 8, []),
  (28, 1, false, .athrow, 0, 0, 0, []), (29, 1, false, .return_, 0, 0, 0, [])]
def k_OC_isHour : List El := [(0, 1, false, .iload_n 0, 0, 0, 0, []), (1, 3, false, .ifCond .lt 13, 14, 0, 0, []), (4, 1, false, .iload_n 0, 0, 0, 0, []), (5, 2, false, .bipush 50, 50, 0, 0, []),
  (7, 3, false, .if_icmp .ge 7, 14, 0, 0, []), (10, 1, false, .iconst 1, 1, 0, 0, []), (11, 3, false, .goto 4, 15, 0, 0, []), (14, 1, false, .iconst 0, 0, 0, 0, []),
  (15, 1, false, .ireturn, 0, 0, 1, [])]
def k_OC_isOwner : List El := [(0, 1, false, .iload_n 0, 0, 0, 0, []), (1, 3, false, .ifCond .lt 13, 14, 0, 0, []), (4, 1, false, .iload_n 0, 0, 0, 0, []), (5, 2, false, .bipush 8, 8, 0, 0, []),
  (7, 3, false, .if_icmp .ge 7, 14, 0, 0, []), (10, 1, false, .iconst 1, 1, 0, 0, []), (11, 3, false, .goto 4, 15, 0, 0, []), (14, 1, false, .iconst 0, 0, 0, 0, []),
  (15, 1, false, .ireturn, 0, 0, 1, [])]
def k_OC_isFarmer : List El := [(0, 1, false, .iload_n 0, 0, 0, 0, []), (1, 3, false, .ifCond .lt 13, 14, 0, 0, []), (4, 1, false, .iload_n 0, 0, 0, 0, []), (5, 2, false, .bipush 7, 7, 0, 0, []),
  (7, 3, false, .if_icmp .ge 7, 14, 0, 0, []), (10, 1, false, .iconst 1, 1, 0, 0, []), (11, 3, false, .goto 4, 15, 0, 0, []), (14, 1, false, .iconst 0, 0, 0, 0, []),
  (15, 1, false, .ireturn, 0, 0, 1, [])]
def k_OC_isWater : List El := [(0, 1, false, .iload_n 0, 0, 0, 0, []), (1, 3, false, .ifCond .lt 14, 15, 0, 0, []), (4, 1, false, .iload_n 0, 0, 0, 0, []), (5, 3, false, .sipush 9999, 9999, 0, 0, []),
  (8, 3, false, .if_icmp .gt 7, 15, 0, 0, []), (11, 1, false, .iconst 1, 1, 0, 0, []), (12, 3, false, .goto 4, 16, 0, 0, []), (15, 1, false, .iconst 0, 0, 0, 0, []),
  (16, 1, false, .ireturn, 0, 0, 1, [])]
def k_OC_isEither : List El := [(0, 1, false, .iload_n 0, 0, 0, 0, []), (1, 3, false, .ifCond .eq 8, 9, 0, 0, []), (4, 1, false, .iload_n 0, 0, 0, 0, []), (5, 1, false, .iconst 1, 1, 0, 0, []),
  (6, 3, false, .if_icmp .ne 7, 13, 0, 0, []), (9, 1, false, .iconst 1, 1, 0, 0, []), (10, 3, false, .goto 4, 14, 0, 0, []), (13, 1, false, .iconst 0, 0, 0, 0, []),
  (14, 1, false, .ireturn, 0, 0, 1, [])]
def k_OC_cellOf : List El := [(0, 2, false, .bipush 8, 8, 0, 0, []), (2, 1, false, .iload_n 1, 1, 0, 0, []), (3, 1, false, .imul, 0, 0, 0, []), (4, 1, false, .iload_n 0, 0, 0, 0, []),
  (5, 1, false, .iadd, 0, 0, 0, []), (6, 1, false, .ireturn, 0, 0, 0, [])]
def k_OC_placeOf : List El := [(0, 1, false, .iload_n 0, 0, 0, 0, []), (1, 3, false, .ifCond .ge 7, 8, 0, 0, []), (4, 1, false, .iconst (-1), 1, 0, 1, []), (5, 3, false, .goto 15, 20, 0, 0, []),
  (8, 2, false, .bipush 100, 100, 0, 0, []), (10, 1, false, .iload_n 0, 0, 0, 0, []), (11, 2, false, .bipush 8, 8, 0, 0, []), (13, 1, false, .irem, 0, 0, 0, []),
  (14, 1, false, .imul, 0, 0, 0, []), (15, 1, false, .iload_n 0, 0, 0, 0, []), (16, 2, false, .bipush 8, 8, 0, 0, []), (18, 1, false, .idiv, 0, 0, 0, []),
  (19, 1, false, .iadd, 0, 0, 0, []), (20, 1, false, .ireturn, 0, 0, 0, [])]
def k_Mo_init : List El := [(0, 1, false, .aload_n 0, 0, 0, 0, []), (1, 3, false, .invokespecial 1, 0, 0, 9, []), (4, 1, false, .aload_n 0, 0, 0, 0, []), (5, 1, false, .iconst (-1), 1, 0, 1, []),
  (6, 3, false, .putfield 9, 11, 3, 0, [0]), (9, 1, false, .aload_n 0, 0, 0, 0, []), (10, 3, false, .sipush 600, 600, 0, 0, []), (13, 2, false, .newarray .int, 12, 0, 0, []),
  (15, 3, false, .putfield 13, 11, 8, 2, [0]), (18, 1, false, .aload_n 0, 0, 0, 0, []), (19, 2, false, .bipush 11, 11, 0, 0, []), (21, 2, false, .newarray .int, 12, 0, 0, []),
  (23, 3, false, .putfield 17, 11, 9, 2, [0]), (26, 1, false, .aload_n 0, 0, 0, 0, []), (27, 2, false, .bipush 11, 11, 0, 0, []), (29, 2, false, .newarray .int, 12, 0, 0, []),
  (31, 3, false, .putfield 20, 11, 10, 2, [0]), (34, 1, false, .aload_n 0, 0, 0, 0, []), (35, 2, false, .bipush 9, 9, 0, 0, []), (37, 1, false, .iconst 4, 4, 0, 0, []),
  (38, 4, false, .multianewarray 23 2, 15, 0, 0, []), (42, 3, false, .putfield 25, 11, 11, 2, [0]), (45, 1, false, .aload_n 0, 0, 0, 0, []), (46, 2, false, .bipush 9, 9, 0, 0, []),
  (48, 1, false, .iconst 4, 4, 0, 0, []), (49, 4, false, .multianewarray 23 2, 15, 0, 0, []), (53, 3, false, .putfield 28, 11, 12, 2, [0]), (56, 1, false, .aload_n 0, 0, 0, 0, []),
  (57, 2, false, .bipush 8, 8, 0, 0, []), (59, 2, false, .bipush 7, 7, 0, 0, []), (61, 4, false, .multianewarray 23 2, 15, 0, 0, []), (65, 3, false, .putfield 31, 11, 13, 2, [0]),
  (68, 1, false, .aload_n 0, 0, 0, 0, []), (69, 2, false, .bipush 8, 8, 0, 0, []), (71, 2, false, .bipush 7, 7, 0, 0, []), (73, 4, false, .multianewarray 23 2, 15, 0, 0, []),
  (77, 3, false, .putfield 34, 11, 14, 2, [0]), (80, 1, false, .aload_n 0, 0, 0, 0, []), (81, 2, false, .bipush 12, 12, 0, 0, []), (83, 2, false, .bipush 6, 6, 0, 0, []),
  (85, 4, false, .multianewarray 23 2, 15, 0, 0, []), (89, 3, false, .putfield 37, 11, 15, 2, [0]), (92, 1, false, .aload_n 0, 0, 0, 0, []), (93, 2, false, .bipush 12, 12, 0, 0, []),
  (95, 2, false, .bipush 6, 6, 0, 0, []), (97, 4, false, .multianewarray 23 2, 15, 0, 0, []), (101, 3, false, .putfield 40, 11, 16, 2, [0]), (104, 1, false, .aload_n 0, 0, 0, 0, []),
  (105, 1, false, .iconst 3, 3, 0, 0, []), (106, 1, false, .iconst 3, 3, 0, 0, []), (107, 4, false, .multianewarray 23 2, 15, 0, 0, []), (111, 3, false, .putfield 43, 11, 17, 2, [0]),
  (114, 1, false, .aload_n 0, 0, 0, 0, []), (115, 1, false, .iconst 3, 3, 0, 0, []), (116, 1, false, .iconst 3, 3, 0, 0, []), (117, 4, false, .multianewarray 23 2, 15, 0, 0, []),
  (121, 3, false, .putfield 46, 11, 18, 2, [0]), (124, 1, false, .aload_n 0, 0, 0, 0, []), (125, 2, false, .bipush 30, 30, 0, 0, []), (127, 1, false, .iconst 4, 4, 0, 0, []),
  (128, 4, false, .multianewarray 23 2, 15, 0, 0, []), (132, 3, false, .putfield 49, 11, 24, 2, [0]), (135, 1, false, .aload_n 0, 0, 0, 0, []), (136, 2, false, .bipush 8, 8, 0, 0, []),
  (138, 1, false, .iconst 3, 3, 0, 0, []), (139, 4, false, .multianewarray 23 2, 15, 0, 0, []), (143, 3, false, .putfield 52, 11, 25, 2, [0]), (146, 1, false, .aload_n 0, 0, 0, 0, []),
  (147, 2, false, .bipush 9, 9, 0, 0, []), (149, 1, false, .iconst 3, 3, 0, 0, []), (150, 4, false, .multianewarray 23 2, 15, 0, 0, []), (154, 3, false, .putfield 55, 11, 26, 2, [0]),
  (157, 1, false, .aload_n 0, 0, 0, 0, []), (158, 1, false, .iconst 3, 3, 0, 0, []), (159, 3, false, .sipush 240, 240, 0, 0, []), (162, 4, false, .multianewarray 23 2, 15, 0, 0, []),
  (166, 3, false, .putfield 58, 11, 27, 2, [0]), (169, 1, false, .aload_n 0, 0, 0, 0, []), (170, 2, false, .bipush 8, 8, 0, 0, []), (172, 2, false, .newarray .boolean, 13, 0, 0, []),
  (174, 3, false, .putfield 61, 11, 28, 2, [0]), (177, 1, false, .aload_n 0, 0, 0, 0, []), (178, 2, false, .bipush 8, 8, 0, 0, []), (180, 2, false, .newarray .int, 12, 0, 0, []),
  (182, 3, false, .putfield 65, 11, 29, 2, [0]), (185, 1, false, .aload_n 0, 0, 0, 0, []), (186, 2, false, .bipush 8, 8, 0, 0, []), (188, 2, false, .newarray .int, 12, 0, 0, []),
  (190, 3, false, .putfield 68, 11, 30, 2, [0]), (193, 1, false, .aload_n 0, 0, 0, 0, []), (194, 2, false, .bipush 8, 8, 0, 0, []), (196, 2, false, .newarray .int, 12, 0, 0, []),
  (198, 3, false, .putfield 71, 11, 31, 2, [0]), (201, 1, false, .aload_n 0, 0, 0, 0, []), (202, 2, false, .bipush 8, 8, 0, 0, []), (204, 2, false, .newarray .int, 12, 0, 0, []),
  (206, 3, false, .putfield 74, 11, 32, 2, [0]), (209, 1, false, .aload_n 0, 0, 0, 0, []), (210, 2, false, .bipush 8, 8, 0, 0, []), (212, 2, false, .newarray .int, 12, 0, 0, []),
  (214, 3, false, .putfield 77, 11, 33, 2, [0]), (217, 1, false, .aload_n 0, 0, 0, 0, []), (218, 2, false, .bipush 8, 8, 0, 0, []), (220, 2, false, .bipush 8, 8, 0, 0, []),
  (222, 4, false, .multianewarray 23 2, 15, 0, 0, []), (226, 3, false, .putfield 80, 11, 34, 2, [0]), (229, 1, false, .aload_n 0, 0, 0, 0, []), (230, 2, false, .bipush 64, 64, 0, 0, []),
  (232, 2, false, .bipush 8, 8, 0, 0, []), (234, 4, false, .multianewarray 23 2, 15, 0, 0, []), (238, 3, false, .putfield 83, 11, 35, 2, [0]), (241, 1, false, .aload_n 0, 0, 0, 0, []),
  (242, 1, false, .iconst 3, 3, 0, 0, []), (243, 2, false, .bipush 8, 8, 0, 0, []), (245, 4, false, .multianewarray 23 2, 15, 0, 0, []), (249, 3, false, .putfield 86, 11, 36, 2, [0]),
  (252, 1, false, .aload_n 0, 0, 0, 0, []), (253, 2, false, .bipush 8, 8, 0, 0, []), (255, 1, false, .iconst 3, 3, 0, 0, []), (256, 4, false, .multianewarray 23 2, 15, 0, 0, []),
  (260, 3, false, .putfield 89, 11, 37, 2, [0]), (263, 1, false, .aload_n 0, 0, 0, 0, []), (264, 2, false, .bipush 12, 12, 0, 0, []), (266, 2, false, .newarray .int, 12, 0, 0, []),
  (268, 3, false, .putfield 92, 11, 38, 2, [0]), (271, 1, false, .aload_n 0, 0, 0, 0, []), (272, 2, false, .bipush 12, 12, 0, 0, []), (274, 2, false, .newarray .int, 12, 0, 0, []),
  (276, 3, false, .putfield 95, 11, 39, 2, [0]), (279, 1, false, .aload_n 0, 0, 0, 0, []), (280, 2, false, .bipush 12, 12, 0, 0, []), (282, 2, false, .newarray .int, 12, 0, 0, []),
  (284, 3, false, .putfield 98, 11, 40, 2, [0]), (287, 1, false, .aload_n 0, 0, 0, 0, []), (288, 2, false, .bipush 8, 8, 0, 0, []), (290, 2, false, .newarray .int, 12, 0, 0, []),
  (292, 3, false, .putfield 101, 11, 41, 2, [0]), (295, 1, false, .aload_n 0, 0, 0, 0, []), (296, 2, false, .bipush 8, 8, 0, 0, []), (298, 2, false, .newarray .int, 12, 0, 0, []),
  (300, 3, false, .putfield 104, 11, 42, 2, [0]), (303, 1, false, .aload_n 0, 0, 0, 0, []), (304, 2, false, .bipush 50, 50, 0, 0, []), (306, 2, false, .newarray .int, 12, 0, 0, []),
  (308, 3, false, .putfield 107, 11, 50, 2, [0]), (311, 1, false, .aload_n 0, 0, 0, 0, []), (312, 2, false, .bipush 50, 50, 0, 0, []), (314, 2, false, .newarray .int, 12, 0, 0, []),
  (316, 3, false, .putfield 110, 11, 51, 2, [0]), (319, 1, false, .aload_n 0, 0, 0, 0, []), (320, 2, false, .bipush 8, 8, 0, 0, []), (322, 2, false, .bipush 12, 12, 0, 0, []),
  (324, 4, false, .multianewarray 23 2, 15, 0, 0, []), (328, 3, false, .putfield 113, 11, 52, 2, [0]), (331, 1, false, .aload_n 0, 0, 0, 0, []), (332, 2, false, .bipush 8, 8, 0, 0, []),
  (334, 2, false, .bipush 12, 12, 0, 0, []), (336, 4, false, .multianewarray 23 2, 15, 0, 0, []), (340, 3, false, .putfield 116, 11, 53, 2, [0]), (343, 1, false, .aload_n 0, 0, 0, 0, []),
  (344, 2, false, .bipush 8, 8, 0, 0, []), (346, 2, false, .newarray .int, 12, 0, 0, []), (348, 3, false, .putfield 119, 11, 54, 2, [0]), (351, 1, false, .aload_n 0, 0, 0, 0, []),
  (352, 2, false, .bipush 12, 12, 0, 0, []), (354, 2, false, .newarray .boolean, 13, 0, 0, []), (356, 3, false, .putfield 122, 11, 55, 2, [0]), (359, 1, false, .aload_n 0, 0, 0, 0, []),
  (360, 2, false, .bipush 8, 8, 0, 0, []), (362, 2, false, .newarray .int, 12, 0, 0, []), (364, 3, false, .putfield 125, 11, 56, 2, [0]), (367, 1, false, .aload_n 0, 0, 0, 0, []),
  (368, 2, false, .bipush 6, 6, 0, 0, []), (370, 2, false, .bipush 9, 9, 0, 0, []), (372, 4, false, .multianewarray 128 2, 16, 0, 0, []), (376, 3, false, .putfield 130, 11, 57, 2, [0]),
  (379, 1, false, .aload_n 0, 0, 0, 0, []), (380, 2, false, .bipush 9, 9, 0, 0, []), (382, 2, false, .newarray .int, 12, 0, 0, []), (384, 3, false, .putfield 133, 11, 58, 2, [0]),
  (387, 1, false, .aload_n 0, 0, 0, 0, []), (388, 3, false, .invokevirtual 136, 43, 1, 0, [0, 11]), (391, 1, false, .iconst 0, 0, 0, 0, []), (392, 1, false, .istore_n 1, 1, 0, 0, []),
  (393, 1, true, .iload_n 1, 1, 0, 0, []), (394, 2, false, .bipush 11, 11, 0, 0, []), (396, 3, false, .if_icmp .ge 21, 417, 0, 0, []), (399, 1, false, .aload_n 0, 0, 0, 0, []),
  (400, 3, false, .getfield 20, 11, 10, 2, [0]), (403, 1, false, .iload_n 1, 1, 0, 0, []), (404, 1, false, .aload_n 0, 0, 0, 0, []), (405, 3, false, .getfield 17, 11, 9, 2, [0]),
  (408, 1, false, .iload_n 1, 1, 0, 0, []), (409, 1, false, .iaload, 0, 0, 0, []), (410, 1, false, .iastore, 0, 0, 0, []), (411, 3, false, .iinc 1 1, 1, 1, 0, []),
  (414, 3, false, .goto (-21), 393, 0, 0, []), (417, 1, false, .return_, 0, 0, 0, [])]
def k_Mo_tellsNothing : List El := [(0, 1, false, .iconst 0, 0, 0, 0, []), (1, 1, false, .istore_n 1, 1, 0, 0, []), (2, 1, true, .iload_n 1, 1, 0, 0, []), (3, 2, false, .bipush 11, 11, 0, 0, []),
  (5, 3, false, .if_icmp .ge 78, 83, 0, 0, []), (8, 1, false, .aload_n 0, 0, 0, 0, []), (9, 3, false, .getfield 17, 11, 9, 2, [0]), (12, 1, false, .iload_n 1, 1, 0, 0, []),
  (13, 1, false, .iload_n 1, 1, 0, 0, []), (14, 3, false, .ifCond .ne 8, 22, 0, 0, []), (17, 2, false, .bipush 6, 6, 0, 0, []), (19, 3, false, .goto 57, 76, 0, 0, []),
  (22, 1, false, .iload_n 1, 1, 0, 0, []), (23, 1, false, .iconst 1, 1, 0, 0, []), (24, 3, false, .if_icmp .ne 7, 31, 0, 0, []), (27, 1, false, .iconst 5, 5, 0, 0, []),
  (28, 3, false, .goto 48, 76, 0, 0, []), (31, 1, false, .iload_n 1, 1, 0, 0, []), (32, 2, false, .bipush 6, 6, 0, 0, []), (34, 3, false, .if_icmp .ne 8, 42, 0, 0, []),
  (37, 2, false, .bipush 20, 20, 0, 0, []), (39, 3, false, .goto 37, 76, 0, 0, []), (42, 1, false, .iload_n 1, 1, 0, 0, []), (43, 2, false, .bipush 7, 7, 0, 0, []),
  (45, 3, false, .if_icmp .ne 9, 54, 0, 0, []), (48, 3, false, .sipush 999, 999, 0, 0, []), (51, 3, false, .goto 25, 76, 0, 0, []), (54, 1, false, .iload_n 1, 1, 0, 0, []),
  (55, 2, false, .bipush 8, 8, 0, 0, []), (57, 3, false, .if_icmp .ne 8, 65, 0, 0, []), (60, 2, false, .bipush 50, 50, 0, 0, []), (62, 3, false, .goto 14, 76, 0, 0, []),
  (65, 1, false, .iload_n 1, 1, 0, 0, []), (66, 2, false, .bipush 9, 9, 0, 0, []), (68, 3, false, .if_icmp .ne 7, 75, 0, 0, []), (71, 1, false, .iconst 1, 1, 0, 0, []),
  (72, 3, false, .goto 4, 76, 0, 0, []), (75, 1, false, .iconst 0, 0, 0, 0, []), (76, 1, false, .iastore, 0, 0, 0, []), (77, 3, false, .iinc 1 1, 1, 1, 0, []),
  (80, 3, false, .goto (-78), 2, 0, 0, []), (83, 1, false, .return_, 0, 0, 0, [])]
def k_Mo_thrown : List El := [(0, 1, false, .aload_n 0, 0, 0, 0, []), (1, 3, false, .getfield 139, 11, 0, 0, [0]), (4, 1, false, .ireturn, 0, 0, 0, [])]
def k_Mo_bad : List El := [(0, 1, false, .iload_n 1, 1, 0, 0, []), (1, 3, false, .ifCond .eq 15, 16, 0, 0, []), (4, 1, false, .aload_n 0, 0, 0, 0, []), (5, 3, false, .getfield 139, 11, 0, 0, [0]),
  (8, 3, false, .ifCond .ne 8, 16, 0, 0, []), (11, 1, false, .aload_n 0, 0, 0, 0, []), (12, 1, false, .iload_n 2, 2, 0, 0, []), (13, 3, false, .putfield 139, 11, 0, 0, [0]),
  (16, 1, false, .aload_n 0, 0, 0, 0, []), (17, 3, false, .getfield 139, 11, 0, 0, [0]), (20, 3, false, .ifCond .eq 7, 27, 0, 0, []), (23, 1, false, .iconst 1, 1, 0, 0, []),
  (24, 3, false, .goto 4, 28, 0, 0, []), (27, 1, false, .iconst 0, 0, 0, 0, []), (28, 1, false, .ireturn, 0, 0, 1, [])]
def k_Mo_in : List El := [(0, 1, false, .iload_n 0, 0, 0, 0, []), (1, 1, false, .iload_n 1, 1, 0, 0, []), (2, 3, false, .if_icmp .lt 12, 14, 0, 0, []), (5, 1, false, .iload_n 0, 0, 0, 0, []),
  (6, 1, false, .iload_n 2, 2, 0, 0, []), (7, 3, false, .if_icmp .gt 7, 14, 0, 0, []), (10, 1, false, .iconst 1, 1, 0, 0, []), (11, 3, false, .goto 4, 15, 0, 0, []),
  (14, 1, false, .iconst 0, 0, 0, 0, []), (15, 1, false, .ireturn, 0, 0, 1, [])]
def k_Mo_feed : List El := [(0, 1, false, .aload_n 0, 0, 0, 0, []), (1, 1, false, .iconst 0, 0, 0, 0, []), (2, 3, false, .putfield 139, 11, 0, 0, [0]), (5, 1, false, .aload_n 0, 0, 0, 0, []),
  (6, 3, false, .getfield 142, 11, 1, 0, [0]), (9, 2, false, .bipush 20, 20, 0, 0, []), (11, 1, false, .iadd, 0, 0, 0, []), (12, 3, false, .sipush 600, 600, 0, 0, []),
  (15, 3, false, .if_icmp .le 5, 20, 0, 0, []), (18, 1, false, .iconst (-1), 1, 0, 1, []), (19, 1, false, .ireturn, 0, 0, 0, []), (20, 1, false, .iconst 0, 0, 0, 0, []),
  (21, 2, false, .istore 6, 6, 0, 0, []), (23, 2, true, .iload 6, 6, 0, 0, []), (25, 2, false, .bipush 20, 20, 0, 0, []), (27, 3, false, .if_icmp .ge 93, 120, 0, 0, []),
  (30, 2, false, .iload 6, 6, 0, 0, []), (32, 1, false, .iconst 4, 4, 0, 0, []), (33, 3, false, .if_icmp .ge 7, 40, 0, 0, []), (36, 1, false, .iload_n 1, 1, 0, 0, []),
  (37, 3, false, .goto 39, 76, 0, 0, []), (40, 2, false, .iload 6, 6, 0, 0, []), (42, 2, false, .bipush 8, 8, 0, 0, []), (44, 3, false, .if_icmp .ge 7, 51, 0, 0, []),
  (47, 1, false, .iload_n 2, 2, 0, 0, []), (48, 3, false, .goto 28, 76, 0, 0, []), (51, 2, false, .iload 6, 6, 0, 0, []), (53, 2, false, .bipush 12, 12, 0, 0, []),
  (55, 3, false, .if_icmp .ge 7, 62, 0, 0, []), (58, 1, false, .iload_n 3, 3, 0, 0, []), (59, 3, false, .goto 17, 76, 0, 0, []), (62, 2, false, .iload 6, 6, 0, 0, []),
  (64, 2, false, .bipush 16, 16, 0, 0, []), (66, 3, false, .if_icmp .ge 8, 74, 0, 0, []), (69, 2, false, .iload 4, 4, 0, 0, []), (71, 3, false, .goto 5, 76, 0, 0, []),
  (74, 2, false, .iload 5, 5, 0, 0, []), (76, 2, false, .istore 7, 7, 0, 0, []), (78, 1, false, .aload_n 0, 0, 0, 0, []), (79, 3, false, .getfield 13, 11, 8, 2, [0]),
  (82, 1, false, .aload_n 0, 0, 0, 0, []), (83, 3, false, .getfield 142, 11, 1, 0, [0]), (86, 2, false, .iload 7, 7, 0, 0, []), (88, 2, false, .bipush 24, 24, 0, 0, []),
  (90, 2, false, .bipush 8, 8, 0, 0, []), (92, 2, false, .iload 6, 6, 0, 0, []), (94, 1, false, .iconst 4, 4, 0, 0, []), (95, 1, false, .irem, 0, 0, 0, []),
  (96, 1, false, .imul, 0, 0, 0, []), (97, 1, false, .isub, 0, 0, 0, []), (98, 1, false, .ishr, 0, 0, 0, []), (99, 3, false, .sipush 255, 255, 0, 0, []),
  (102, 1, false, .iand, 0, 0, 0, []), (103, 1, false, .iastore, 0, 0, 0, []), (104, 1, false, .aload_n 0, 0, 0, 0, []), (105, 1, false, .dup, 0, 0, 0, []),
  (106, 3, false, .getfield 142, 11, 1, 0, [0]), (109, 1, false, .iconst 1, 1, 0, 0, []), (110, 1, false, .iadd, 0, 0, 0, []), (111, 3, false, .putfield 142, 11, 1, 0, [0]),
  (114, 3, false, .iinc 6 1, 6, 1, 0, []), (117, 3, false, .goto (-94), 23, 0, 0, []), (120, 1, false, .aload_n 0, 0, 0, 0, []), (121, 3, false, .getfield 142, 11, 1, 0, [0]),
  (124, 1, false, .ireturn, 0, 0, 0, [])]
def k_Mo_byteAt : List El := [(0, 1, false, .iload_n 1, 1, 0, 0, []), (1, 1, false, .aload_n 0, 0, 0, 0, []), (2, 3, false, .getfield 145, 11, 2, 0, [0]), (5, 3, false, .if_icmp .lt 7, 12, 0, 0, []),
  (8, 1, false, .iconst (-1), 1, 0, 1, []), (9, 3, false, .goto 9, 18, 0, 0, []), (12, 1, false, .aload_n 0, 0, 0, 0, []), (13, 3, false, .getfield 13, 11, 8, 2, [0]),
  (16, 1, false, .iload_n 1, 1, 0, 0, []), (17, 1, false, .iaload, 0, 0, 0, []), (18, 1, false, .ireturn, 0, 0, 0, [])]
def k_Mo_blanks : List El := [(0, 1, true, .aload_n 0, 0, 0, 0, []), (1, 1, false, .aload_n 0, 0, 0, 0, []), (2, 3, false, .getfield 148, 11, 4, 0, [0]), (5, 3, false, .invokevirtual 151, 48, 2, 0, [0, 11]),
  (8, 2, false, .bipush 32, 32, 0, 0, []), (10, 3, false, .if_icmp .ne 16, 26, 0, 0, []), (13, 1, false, .aload_n 0, 0, 0, 0, []), (14, 1, false, .dup, 0, 0, 0, []),
  (15, 3, false, .getfield 148, 11, 4, 0, [0]), (18, 1, false, .iconst 1, 1, 0, 0, []), (19, 1, false, .iadd, 0, 0, 0, []), (20, 3, false, .putfield 148, 11, 4, 0, [0]),
  (23, 3, false, .goto (-23), 0, 0, 0, []), (26, 1, false, .return_, 0, 0, 0, [])]
def k_Mo_wrong : List El := [(0, 1, false, .aload_n 0, 0, 0, 0, []), (1, 3, false, .getfield 155, 11, 5, 0, [0]), (4, 3, false, .ifCond .ne 13, 17, 0, 0, []), (7, 1, false, .aload_n 0, 0, 0, 0, []),
  (8, 1, false, .iload_n 1, 1, 0, 0, []), (9, 3, false, .putfield 155, 11, 5, 0, [0]), (12, 1, false, .aload_n 0, 0, 0, 0, []), (13, 1, false, .iload_n 2, 2, 0, 0, []),
  (14, 3, false, .putfield 158, 11, 6, 0, [0]), (17, 1, false, .return_, 0, 0, 0, [])]
def k_Mo_isDigit : List El := [(0, 1, false, .iload_n 0, 0, 0, 0, []), (1, 2, false, .bipush 48, 48, 0, 0, []), (3, 3, false, .if_icmp .lt 13, 16, 0, 0, []), (6, 1, false, .iload_n 0, 0, 0, 0, []),
  (7, 2, false, .bipush 57, 57, 0, 0, []), (9, 3, false, .if_icmp .gt 7, 16, 0, 0, []), (12, 1, false, .iconst 1, 1, 0, 0, []), (13, 3, false, .goto 4, 17, 0, 0, []),
  (16, 1, false, .iconst 0, 0, 0, 0, []), (17, 1, false, .ireturn, 0, 0, 1, [])]
def k_Mo_number : List El := [(0, 1, false, .aload_n 0, 0, 0, 0, []), (1, 3, false, .getfield 155, 11, 5, 0, [0]), (4, 3, false, .ifCond .eq 5, 9, 0, 0, []), (7, 1, false, .iconst 0, 0, 0, 0, []),
  (8, 1, false, .ireturn, 0, 0, 0, []), (9, 1, false, .aload_n 0, 0, 0, 0, []), (10, 3, false, .invokevirtual 161, 49, 1, 0, [0, 11]), (13, 1, false, .aload_n 0, 0, 0, 0, []),
  (14, 3, false, .getfield 148, 11, 4, 0, [0]), (17, 1, false, .istore_n 3, 3, 0, 0, []), (18, 1, false, .iconst 0, 0, 0, 0, []), (19, 2, false, .istore 4, 4, 0, 0, []),
  (21, 1, false, .aload_n 0, 0, 0, 0, []), (22, 1, false, .aload_n 0, 0, 0, 0, []), (23, 3, false, .getfield 148, 11, 4, 0, [0]), (26, 3, false, .invokevirtual 151, 48, 2, 0, [0, 11]),
  (29, 3, false, .invokestatic 164, 51, 1, 0, [0]), (32, 3, false, .ifCond .ne 12, 44, 0, 0, []), (35, 1, false, .aload_n 0, 0, 0, 0, []), (36, 1, false, .iconst 1, 1, 0, 0, []),
  (37, 1, false, .aload_n 0, 0, 0, 0, []), (38, 3, false, .getfield 148, 11, 4, 0, [0]), (41, 3, false, .invokevirtual 168, 50, 3, 0, [0, 11]), (44, 1, true, .aload_n 0, 0, 0, 0, []),
  (45, 1, false, .aload_n 0, 0, 0, 0, []), (46, 3, false, .getfield 148, 11, 4, 0, [0]), (49, 3, false, .invokevirtual 151, 48, 2, 0, [0, 11]), (52, 3, false, .invokestatic 164, 51, 1, 0, [0]),
  (55, 3, false, .ifCond .eq 51, 106, 0, 0, []), (58, 2, false, .bipush 10, 10, 0, 0, []), (60, 2, false, .iload 4, 4, 0, 0, []), (62, 1, false, .imul, 0, 0, 0, []),
  (63, 1, false, .aload_n 0, 0, 0, 0, []), (64, 1, false, .aload_n 0, 0, 0, 0, []), (65, 3, false, .getfield 148, 11, 4, 0, [0]), (68, 3, false, .invokevirtual 151, 48, 2, 0, [0, 11]),
  (71, 1, false, .iadd, 0, 0, 0, []), (72, 2, false, .bipush 48, 48, 0, 0, []), (74, 1, false, .isub, 0, 0, 0, []), (75, 2, false, .istore 4, 4, 0, 0, []),
  (77, 2, false, .iload 4, 4, 0, 0, []), (79, 2, false, .ldc 172, 100000, 0, 0, []), (81, 3, false, .if_icmp .le 8, 89, 0, 0, []), (84, 2, false, .ldc 172, 100000, 0, 0, []),
  (86, 3, false, .goto 5, 91, 0, 0, []), (89, 2, false, .iload 4, 4, 0, 0, []), (91, 2, false, .istore 4, 4, 0, 0, []), (93, 1, false, .aload_n 0, 0, 0, 0, []),
  (94, 1, false, .dup, 0, 0, 0, []), (95, 3, false, .getfield 148, 11, 4, 0, [0]), (98, 1, false, .iconst 1, 1, 0, 0, []), (99, 1, false, .iadd, 0, 0, 0, []),
  (100, 3, false, .putfield 148, 11, 4, 0, [0]), (103, 3, false, .goto (-59), 44, 0, 0, []), (106, 2, false, .iload 4, 4, 0, 0, []), (108, 1, false, .iload_n 1, 1, 0, 0, []),
  (109, 1, false, .iload_n 2, 2, 0, 0, []), (110, 3, false, .invokestatic 173, 46, 3, 0, [0]), (113, 3, false, .ifCond .ne 9, 122, 0, 0, []), (116, 1, false, .aload_n 0, 0, 0, 0, []),
  (117, 1, false, .iconst 2, 2, 0, 0, []), (118, 1, false, .iload_n 3, 3, 0, 0, []), (119, 3, false, .invokevirtual 168, 50, 3, 0, [0, 11]), (122, 1, false, .aload_n 0, 0, 0, 0, []),
  (123, 3, false, .getfield 155, 11, 5, 0, [0]), (126, 3, false, .ifCond .ne 8, 134, 0, 0, []), (129, 2, false, .iload 4, 4, 0, 0, []), (131, 3, false, .goto 4, 135, 0, 0, []),
  (134, 1, false, .iconst 0, 0, 0, 0, []), (135, 1, false, .ireturn, 0, 0, 0, [])]
def k_Mo_wordHere : List El := [(0, 1, false, .aload_n 0, 0, 0, 0, []), (1, 3, false, .invokevirtual 161, 49, 1, 0, [0, 11]), (4, 1, false, .lconst 0, 0, 0, 0, []), (5, 1, false, .lstore_n 1, 1, 0, 0, []),
  (6, 1, false, .iconst 0, 0, 0, 0, []), (7, 1, false, .istore_n 3, 3, 0, 0, []), (8, 1, true, .aload_n 0, 0, 0, 0, []), (9, 1, false, .aload_n 0, 0, 0, 0, []),
  (10, 3, false, .getfield 148, 11, 4, 0, [0]), (13, 1, false, .iload_n 3, 3, 0, 0, []), (14, 1, false, .iadd, 0, 0, 0, []), (15, 3, false, .invokevirtual 151, 48, 2, 0, [0, 11]),
  (18, 2, false, .bipush 97, 97, 0, 0, []), (20, 3, false, .if_icmp .lt 58, 78, 0, 0, []), (23, 1, false, .aload_n 0, 0, 0, 0, []), (24, 1, false, .aload_n 0, 0, 0, 0, []),
  (25, 3, false, .getfield 148, 11, 4, 0, [0]), (28, 1, false, .iload_n 3, 3, 0, 0, []), (29, 1, false, .iadd, 0, 0, 0, []), (30, 3, false, .invokevirtual 151, 48, 2, 0, [0, 11]),
  (33, 2, false, .bipush 122, 122, 0, 0, []), (35, 3, false, .if_icmp .gt 43, 78, 0, 0, []), (38, 1, false, .iload_n 3, 3, 0, 0, []), (39, 2, false, .bipush 8, 8, 0, 0, []),
  (41, 3, false, .if_icmp .ge 29, 70, 0, 0, []), (44, 3, false, .ldc2_w 177, 27, 0, 0, []), (47, 1, false, .lload_n 1, 1, 0, 0, []), (48, 1, false, .lmul, 0, 0, 0, []),
  (49, 1, false, .aload_n 0, 0, 0, 0, []), (50, 1, false, .aload_n 0, 0, 0, 0, []), (51, 3, false, .getfield 148, 11, 4, 0, [0]), (54, 1, false, .iload_n 3, 3, 0, 0, []),
  (55, 1, false, .iadd, 0, 0, 0, []), (56, 3, false, .invokevirtual 151, 48, 2, 0, [0, 11]), (59, 1, false, .i2l, 0, 0, 0, []), (60, 1, false, .ladd, 0, 0, 0, []),
  (61, 3, false, .ldc2_w 179, 97, 0, 0, []), (64, 1, false, .lsub, 0, 0, 0, []), (65, 1, false, .lconst 1, 1, 0, 0, []), (66, 1, false, .ladd, 0, 0, 0, []),
  (67, 3, false, .goto 4, 71, 0, 0, []), (70, 1, false, .lload_n 1, 1, 0, 0, []), (71, 1, false, .lstore_n 1, 1, 0, 0, []), (72, 3, false, .iinc 3 1, 3, 1, 0, []),
  (75, 3, false, .goto (-67), 8, 0, 0, []), (78, 1, false, .iload_n 3, 3, 0, 0, []), (79, 2, false, .bipush 8, 8, 0, 0, []), (81, 3, false, .if_icmp .le 9, 90, 0, 0, []),
  (84, 3, false, .ldc2_w 181, 1, 0, 1, []), (87, 3, false, .goto 4, 91, 0, 0, []), (90, 1, false, .lload_n 1, 1, 0, 0, []), (91, 1, false, .lreturn, 0, 0, 0, [])]
def k_Mo_five : List El := [(0, 3, false, .ldc2_w 177, 27, 0, 0, []), (3, 3, false, .ldc2_w 177, 27, 0, 0, []), (6, 1, false, .iload_n 0, 0, 0, 0, []), (7, 1, false, .i2l, 0, 0, 0, []),
  (8, 1, false, .lmul, 0, 0, 0, []), (9, 1, false, .iload_n 1, 1, 0, 0, []), (10, 1, false, .i2l, 0, 0, 0, []), (11, 1, false, .ladd, 0, 0, 0, []),
  (12, 1, false, .lmul, 0, 0, 0, []), (13, 1, false, .iload_n 2, 2, 0, 0, []), (14, 1, false, .i2l, 0, 0, 0, []), (15, 1, false, .ladd, 0, 0, 0, []),
  (16, 2, false, .lstore 5, 5, 0, 0, []), (18, 1, false, .iload_n 3, 3, 0, 0, []), (19, 3, false, .ifCond .ne 8, 27, 0, 0, []), (22, 2, false, .lload 5, 5, 0, 0, []),
  (24, 3, false, .goto 12, 36, 0, 0, []), (27, 3, false, .ldc2_w 177, 27, 0, 0, []), (30, 2, false, .lload 5, 5, 0, 0, []), (32, 1, false, .lmul, 0, 0, 0, []),
  (33, 1, false, .iload_n 3, 3, 0, 0, []), (34, 1, false, .i2l, 0, 0, 0, []), (35, 1, false, .ladd, 0, 0, 0, []), (36, 2, false, .lstore 5, 5, 0, 0, []),
  (38, 2, false, .iload 4, 4, 0, 0, []), (40, 3, false, .ifCond .ne 8, 48, 0, 0, []), (43, 2, false, .lload 5, 5, 0, 0, []), (45, 3, false, .goto 13, 58, 0, 0, []),
  (48, 3, false, .ldc2_w 177, 27, 0, 0, []), (51, 2, false, .lload 5, 5, 0, 0, []), (53, 1, false, .lmul, 0, 0, 0, []), (54, 2, false, .iload 4, 4, 0, 0, []),
  (56, 1, false, .i2l, 0, 0, 0, []), (57, 1, false, .ladd, 0, 0, 0, []), (58, 1, false, .lreturn, 0, 0, 0, [])]
def k_Mo_isWord : List El := [(0, 1, false, .aload_n 0, 0, 0, 0, []), (1, 3, false, .getfield 155, 11, 5, 0, [0]), (4, 3, false, .ifCond .ne 16, 20, 0, 0, []), (7, 1, false, .aload_n 0, 0, 0, 0, []),
  (8, 3, false, .invokevirtual 183, 53, 1, 0, [0, 11]), (11, 1, false, .lload_n 1, 1, 0, 0, []), (12, 1, false, .lcmp, 0, 0, 0, []), (13, 3, false, .ifCond .ne 7, 20, 0, 0, []),
  (16, 1, false, .iconst 1, 1, 0, 0, []), (17, 3, false, .goto 4, 21, 0, 0, []), (20, 1, false, .iconst 0, 0, 0, 0, []), (21, 1, false, .ireturn, 0, 0, 1, [])]
def k_Mo_closes : List El := [(0, 1, false, .aload_n 0, 0, 0, 0, []), (1, 3, false, .getfield 155, 11, 5, 0, [0]), (4, 3, false, .ifCond .eq 4, 8, 0, 0, []), (7, 1, false, .return_, 0, 0, 0, []),
  (8, 1, false, .aload_n 0, 0, 0, 0, []), (9, 3, false, .invokevirtual 161, 49, 1, 0, [0, 11]), (12, 1, false, .aload_n 0, 0, 0, 0, []), (13, 1, false, .aload_n 0, 0, 0, 0, []),
  (14, 3, false, .getfield 148, 11, 4, 0, [0]), (17, 3, false, .invokevirtual 151, 48, 2, 0, [0, 11]), (20, 2, false, .bipush 59, 59, 0, 0, []), (22, 3, false, .if_icmp .ne 16, 38, 0, 0, []),
  (25, 1, false, .aload_n 0, 0, 0, 0, []), (26, 1, false, .dup, 0, 0, 0, []), (27, 3, false, .getfield 148, 11, 4, 0, [0]), (30, 1, false, .iconst 1, 1, 0, 0, []),
  (31, 1, false, .iadd, 0, 0, 0, []), (32, 3, false, .putfield 148, 11, 4, 0, [0]), (35, 3, false, .goto 12, 47, 0, 0, []), (38, 1, false, .aload_n 0, 0, 0, 0, []),
  (39, 1, false, .iconst 1, 1, 0, 0, []), (40, 1, false, .aload_n 0, 0, 0, 0, []), (41, 3, false, .getfield 148, 11, 4, 0, [0]), (44, 3, false, .invokevirtual 168, 50, 3, 0, [0, 11]),
  (47, 1, false, .return_, 0, 0, 0, [])]
def k_Mo_kindHere : List El := [(0, 1, false, .aload_n 0, 0, 0, 0, []), (1, 2, false, .bipush 19, 19, 0, 0, []), (3, 2, false, .bipush 11, 11, 0, 0, []), (5, 2, false, .bipush 25, 25, 0, 0, []),
  (7, 1, false, .iconst 0, 0, 0, 0, []), (8, 1, false, .iconst 0, 0, 0, 0, []), (9, 3, false, .invokestatic 187, 54, 5, 0, [0]), (12, 3, false, .invokevirtual 191, 55, 2, 0, [0, 11]),
  (15, 3, false, .ifCond .eq 5, 20, 0, 0, []), (18, 1, false, .iconst 0, 0, 0, 0, []), (19, 1, false, .ireturn, 0, 0, 0, []), (20, 1, false, .aload_n 0, 0, 0, 0, []),
  (21, 1, false, .iconst 3, 3, 0, 0, []), (22, 2, false, .bipush 12, 12, 0, 0, []), (24, 2, false, .bipush 15, 15, 0, 0, []), (26, 2, false, .bipush 21, 21, 0, 0, []),
  (28, 1, false, .iconst 4, 4, 0, 0, []), (29, 3, false, .invokestatic 187, 54, 5, 0, [0]), (32, 3, false, .invokevirtual 191, 55, 2, 0, [0, 11]), (35, 3, false, .ifCond .eq 5, 40, 0, 0, []),
  (38, 1, false, .iconst 2, 2, 0, 0, []), (39, 1, false, .ireturn, 0, 0, 0, []), (40, 1, false, .aload_n 0, 0, 0, 0, []), (41, 2, false, .bipush 6, 6, 0, 0, []),
  (43, 2, false, .bipush 9, 9, 0, 0, []), (45, 1, false, .iconst 5, 5, 0, 0, []), (46, 2, false, .bipush 12, 12, 0, 0, []), (48, 1, false, .iconst 4, 4, 0, 0, []),
  (49, 3, false, .invokestatic 187, 54, 5, 0, [0]), (52, 3, false, .invokevirtual 191, 55, 2, 0, [0, 11]), (55, 3, false, .ifCond .eq 5, 60, 0, 0, []), (58, 1, false, .iconst 3, 3, 0, 0, []),
  (59, 1, false, .ireturn, 0, 0, 0, []), (60, 1, false, .aload_n 0, 0, 0, 0, []), (61, 3, false, .ldc2_w 177, 27, 0, 0, []), (64, 3, false, .ldc2_w 177, 27, 0, 0, []),
  (67, 2, false, .bipush 7, 7, 0, 0, []), (69, 2, false, .bipush 12, 12, 0, 0, []), (71, 1, false, .iconst 1, 1, 0, 0, []), (72, 1, false, .iconst 3, 3, 0, 0, []),
  (73, 2, false, .bipush 9, 9, 0, 0, []), (75, 3, false, .invokestatic 187, 54, 5, 0, [0]), (78, 1, false, .lmul, 0, 0, 0, []), (79, 3, false, .ldc2_w 195, 5, 0, 0, []),
  (82, 1, false, .ladd, 0, 0, 0, []), (83, 1, false, .lmul, 0, 0, 0, []), (84, 3, false, .ldc2_w 197, 18, 0, 0, []), (87, 1, false, .ladd, 0, 0, 0, []),
  (88, 3, false, .invokevirtual 191, 55, 2, 0, [0, 11]), (91, 3, false, .ifCond .eq 5, 96, 0, 0, []), (94, 1, false, .iconst 4, 4, 0, 0, []), (95, 1, false, .ireturn, 0, 0, 0, []),
  (96, 1, false, .aload_n 0, 0, 0, 0, []), (97, 2, false, .bipush 10, 10, 0, 0, []), (99, 2, false, .bipush 15, 15, 0, 0, []), (101, 2, false, .bipush 9, 9, 0, 0, []),
  (103, 2, false, .bipush 14, 14, 0, 0, []), (105, 1, false, .iconst 0, 0, 0, 0, []), (106, 3, false, .invokestatic 187, 54, 5, 0, [0]), (109, 3, false, .invokevirtual 191, 55, 2, 0, [0, 11]),
  (112, 3, false, .ifCond .eq 5, 117, 0, 0, []), (115, 1, false, .iconst 5, 5, 0, 0, []), (116, 1, false, .ireturn, 0, 0, 0, []), (117, 1, false, .aload_n 0, 0, 0, 0, []),
  (118, 2, false, .bipush 18, 18, 0, 0, []), (120, 1, false, .iconst 1, 1, 0, 0, []), (121, 2, false, .bipush 20, 20, 0, 0, []), (123, 1, false, .iconst 5, 5, 0, 0, []),
  (124, 1, false, .iconst 0, 0, 0, 0, []), (125, 3, false, .invokestatic 187, 54, 5, 0, [0]), (128, 3, false, .invokevirtual 191, 55, 2, 0, [0, 11]), (131, 3, false, .ifCond .eq 6, 137, 0, 0, []),
  (134, 2, false, .bipush 6, 6, 0, 0, []), (136, 1, false, .ireturn, 0, 0, 0, []), (137, 1, false, .aload_n 0, 0, 0, 0, []), (138, 2, false, .bipush 8, 8, 0, 0, []),
  (140, 2, false, .bipush 15, 15, 0, 0, []), (142, 2, false, .bipush 12, 12, 0, 0, []), (144, 1, false, .iconst 4, 4, 0, 0, []), (145, 1, false, .iconst 0, 0, 0, 0, []),
  (146, 3, false, .invokestatic 187, 54, 5, 0, [0]), (149, 3, false, .invokevirtual 191, 55, 2, 0, [0, 11]), (152, 3, false, .ifCond .eq 6, 158, 0, 0, []), (155, 2, false, .bipush 7, 7, 0, 0, []),
  (157, 1, false, .ireturn, 0, 0, 0, []), (158, 1, false, .aload_n 0, 0, 0, 0, []), (159, 2, false, .bipush 8, 8, 0, 0, []), (161, 1, false, .iconst 1, 1, 0, 0, []),
  (162, 2, false, .bipush 9, 9, 0, 0, []), (164, 2, false, .bipush 12, 12, 0, 0, []), (166, 1, false, .iconst 0, 0, 0, 0, []), (167, 3, false, .invokestatic 187, 54, 5, 0, [0]),
  (170, 3, false, .invokevirtual 191, 55, 2, 0, [0, 11]), (173, 3, false, .ifCond .eq 6, 179, 0, 0, []), (176, 2, false, .bipush 8, 8, 0, 0, []), (178, 1, false, .ireturn, 0, 0, 0, []),
  (179, 1, false, .aload_n 0, 0, 0, 0, []), (180, 2, false, .bipush 6, 6, 0, 0, []), (182, 2, false, .bipush 12, 12, 0, 0, []), (184, 2, false, .bipush 15, 15, 0, 0, []),
  (186, 2, false, .bipush 15, 15, 0, 0, []), (188, 1, false, .iconst 4, 4, 0, 0, []), (189, 3, false, .invokestatic 187, 54, 5, 0, [0]), (192, 3, false, .invokevirtual 191, 55, 2, 0, [0, 11]),
  (195, 3, false, .ifCond .eq 6, 201, 0, 0, []), (198, 2, false, .bipush 9, 9, 0, 0, []), (200, 1, false, .ireturn, 0, 0, 0, []), (201, 1, false, .aload_n 0, 0, 0, 0, []),
  (202, 2, false, .bipush 23, 23, 0, 0, []), (204, 2, false, .bipush 9, 9, 0, 0, []), (206, 2, false, .bipush 14, 14, 0, 0, []), (208, 1, false, .iconst 4, 4, 0, 0, []),
  (209, 1, false, .iconst 0, 0, 0, 0, []), (210, 3, false, .invokestatic 187, 54, 5, 0, [0]), (213, 3, false, .invokevirtual 191, 55, 2, 0, [0, 11]), (216, 3, false, .ifCond .eq 6, 222, 0, 0, []),
  (219, 2, false, .bipush 10, 10, 0, 0, []), (221, 1, false, .ireturn, 0, 0, 0, []), (222, 1, false, .aload_n 0, 0, 0, 0, []), (223, 2, false, .bipush 19, 19, 0, 0, []),
  (225, 1, false, .iconst 5, 5, 0, 0, []), (226, 1, false, .iconst 5, 5, 0, 0, []), (227, 2, false, .bipush 14, 14, 0, 0, []), (229, 1, false, .iconst 0, 0, 0, 0, []),
  (230, 3, false, .invokestatic 187, 54, 5, 0, [0]), (233, 3, false, .invokevirtual 191, 55, 2, 0, [0, 11]), (236, 3, false, .ifCond .eq 8, 244, 0, 0, []), (239, 2, false, .bipush 11, 11, 0, 0, []),
  (241, 3, false, .goto 4, 245, 0, 0, []), (244, 1, false, .iconst (-1), 1, 0, 1, []), (245, 1, false, .ireturn, 0, 0, 0, [])]
def k_Mo_mostOf : List El := [(0, 1, false, .iload_n 0, 0, 0, 0, []), (1, 1, false, .iconst 2, 2, 0, 0, []), (2, 3, false, .if_icmp .ne 8, 10, 0, 0, []), (5, 2, false, .bipush 8, 8, 0, 0, []),
  (7, 3, false, .goto 24, 31, 0, 0, []), (10, 1, false, .iload_n 0, 0, 0, 0, []), (11, 1, false, .iconst 3, 3, 0, 0, []), (12, 3, false, .if_icmp .ne 8, 20, 0, 0, []),
  (15, 2, false, .bipush 12, 12, 0, 0, []), (17, 3, false, .goto 14, 31, 0, 0, []), (20, 1, false, .iload_n 0, 0, 0, 0, []), (21, 1, false, .iconst 4, 4, 0, 0, []),
  (22, 3, false, .if_icmp .ne 7, 29, 0, 0, []), (25, 1, false, .iconst 3, 3, 0, 0, []), (26, 3, false, .goto 5, 31, 0, 0, []), (29, 2, false, .bipush 9, 9, 0, 0, []),
  (31, 1, false, .ireturn, 0, 0, 0, [])]
def k_Mo_clause : List El := [(0, 1, false, .aload_n 0, 0, 0, 0, []), (1, 3, false, .invokevirtual 199, 57, 1, 0, [0, 11]), (4, 1, false, .istore_n 1, 1, 0, 0, []), (5, 1, false, .iload_n 1, 1, 0, 0, []),
  (6, 1, false, .iconst 2, 2, 0, 0, []), (7, 1, false, .iconst 4, 4, 0, 0, []), (8, 3, false, .invokestatic 173, 46, 3, 0, [0]), (11, 3, false, .ifCond .ne 9, 20, 0, 0, []),
  (14, 1, false, .iload_n 1, 1, 0, 0, []), (15, 2, false, .bipush 10, 10, 0, 0, []), (17, 3, false, .if_icmp .ne 7, 24, 0, 0, []), (20, 1, false, .iconst 1, 1, 0, 0, []),
  (21, 3, false, .goto 4, 25, 0, 0, []), (24, 1, false, .iconst 0, 0, 0, 0, []), (25, 1, false, .istore_n 2, 2, 0, 0, []), (26, 1, false, .iload_n 1, 1, 0, 0, []),
  (27, 1, false, .iconst (-1), 1, 0, 1, []), (28, 3, false, .if_icmp .ne 15, 43, 0, 0, []), (31, 1, false, .aload_n 0, 0, 0, 0, []), (32, 1, false, .iconst 1, 1, 0, 0, []),
  (33, 1, false, .aload_n 0, 0, 0, 0, []), (34, 3, false, .getfield 148, 11, 4, 0, [0]), (37, 3, false, .invokevirtual 168, 50, 3, 0, [0, 11]), (40, 3, false, .goto 61, 101, 0, 0, []),
  (43, 1, false, .aload_n 0, 0, 0, 0, []), (44, 3, false, .getfield 203, 11, 7, 0, [0]), (47, 2, false, .bipush 60, 60, 0, 0, []), (49, 3, false, .if_icmp .eq 20, 69, 0, 0, []),
  (52, 1, false, .iload_n 2, 2, 0, 0, []), (53, 3, false, .ifCond .eq 28, 81, 0, 0, []), (56, 1, false, .aload_n 0, 0, 0, 0, []), (57, 3, false, .getfield 17, 11, 9, 2, [0]),
  (60, 1, false, .iload_n 1, 1, 0, 0, []), (61, 1, false, .iaload, 0, 0, 0, []), (62, 1, false, .iload_n 1, 1, 0, 0, []), (63, 3, false, .invokestatic 206, 58, 1, 0, [0]),
  (66, 3, false, .if_icmp .ne 15, 81, 0, 0, []), (69, 1, false, .aload_n 0, 0, 0, 0, []), (70, 1, false, .iconst 3, 3, 0, 0, []), (71, 1, false, .aload_n 0, 0, 0, 0, []),
  (72, 3, false, .getfield 148, 11, 4, 0, [0]), (75, 3, false, .invokevirtual 168, 50, 3, 0, [0, 11]), (78, 3, false, .goto 23, 101, 0, 0, []), (81, 1, false, .iload_n 1, 1, 0, 0, []),
  (82, 3, false, .ifCond .ne 19, 101, 0, 0, []), (85, 1, false, .aload_n 0, 0, 0, 0, []), (86, 3, false, .getfield 203, 11, 7, 0, [0]), (89, 3, false, .ifCond .le 12, 101, 0, 0, []),
  (92, 1, false, .aload_n 0, 0, 0, 0, []), (93, 1, false, .iconst 4, 4, 0, 0, []), (94, 1, false, .aload_n 0, 0, 0, 0, []), (95, 3, false, .getfield 148, 11, 4, 0, [0]),
  (98, 3, false, .invokevirtual 168, 50, 3, 0, [0, 11]), (101, 1, false, .aload_n 0, 0, 0, 0, []), (102, 3, false, .getfield 155, 11, 5, 0, [0]), (105, 3, false, .ifCond .eq 4, 109, 0, 0, []),
  (108, 1, false, .return_, 0, 0, 0, []), (109, 1, true, .aload_n 0, 0, 0, 0, []), (110, 1, false, .aload_n 0, 0, 0, 0, []), (111, 3, false, .getfield 148, 11, 4, 0, [0]),
  (114, 3, false, .invokevirtual 151, 48, 2, 0, [0, 11]), (117, 2, false, .bipush 97, 97, 0, 0, []), (119, 3, false, .if_icmp .lt 29, 148, 0, 0, []), (122, 1, false, .aload_n 0, 0, 0, 0, []),
  (123, 1, false, .aload_n 0, 0, 0, 0, []), (124, 3, false, .getfield 148, 11, 4, 0, [0]), (127, 3, false, .invokevirtual 151, 48, 2, 0, [0, 11]), (130, 2, false, .bipush 122, 122, 0, 0, []),
  (132, 3, false, .if_icmp .gt 16, 148, 0, 0, []), (135, 1, false, .aload_n 0, 0, 0, 0, []), (136, 1, false, .dup, 0, 0, 0, []), (137, 3, false, .getfield 148, 11, 4, 0, [0]),
  (140, 1, false, .iconst 1, 1, 0, 0, []), (141, 1, false, .iadd, 0, 0, 0, []), (142, 3, false, .putfield 148, 11, 4, 0, [0]), (145, 3, false, .goto (-36), 109, 0, 0, []),
  (148, 1, false, .aload_n 0, 0, 0, 0, []), (149, 1, false, .dup, 0, 0, 0, []), (150, 3, false, .getfield 203, 11, 7, 0, [0]), (153, 1, false, .iconst 1, 1, 0, 0, []),
  (154, 1, false, .iadd, 0, 0, 0, []), (155, 3, false, .putfield 203, 11, 7, 0, [0]), (158, 1, false, .aload_n 0, 0, 0, 0, []), (159, 3, false, .getfield 17, 11, 9, 2, [0]),
  (162, 1, false, .iconst 0, 0, 0, 0, []), (163, 1, false, .iaload, 0, 0, 0, []), (164, 1, false, .iconst 1, 1, 0, 0, []), (165, 1, false, .isub, 0, 0, 0, []),
  (166, 1, false, .istore_n 3, 3, 0, 0, []), (167, 1, false, .aload_n 0, 0, 0, 0, []), (168, 3, false, .getfield 17, 11, 9, 2, [0]), (171, 1, false, .iconst 1, 1, 0, 0, []),
  (172, 1, false, .iaload, 0, 0, 0, []), (173, 1, false, .iconst 1, 1, 0, 0, []), (174, 1, false, .isub, 0, 0, 0, []), (175, 2, false, .istore 4, 4, 0, 0, []),
  (177, 1, false, .iload_n 1, 1, 0, 0, []), (178, 58, false, .tableswitch 292 0 10 #[58, 292, 87, 108, 129, 150, 165, 182, 200, 217, 234], 470, 0, 0, [236, 470, 265, 286, 307, 328, 343, 360, 378, 395, 412]), (236, 1, false, .aload_n 0, 0, 0, 0, []), (237, 3, false, .getfield 17, 11, 9, 2, [0]),
  (240, 1, false, .iconst 0, 0, 0, 0, []), (241, 1, false, .aload_n 0, 0, 0, 0, []), (242, 1, false, .iconst 2, 2, 0, 0, []), (243, 2, false, .bipush 8, 8, 0, 0, []),
  (245, 3, false, .invokevirtual 209, 52, 3, 0, [0, 11]), (248, 1, false, .iastore, 0, 0, 0, []), (249, 1, false, .aload_n 0, 0, 0, 0, []), (250, 3, false, .getfield 17, 11, 9, 2, [0]),
  (253, 1, false, .iconst 1, 1, 0, 0, []), (254, 1, false, .aload_n 0, 0, 0, 0, []), (255, 1, false, .iconst 2, 2, 0, 0, []), (256, 2, false, .bipush 8, 8, 0, 0, []),
  (258, 3, false, .invokevirtual 209, 52, 3, 0, [0, 11]), (261, 1, false, .iastore, 0, 0, 0, []), (262, 3, false, .goto 212, 474, 0, 0, []), (265, 1, false, .aload_n 0, 0, 0, 0, []),
  (266, 1, false, .aload_n 0, 0, 0, 0, []), (267, 3, false, .getfield 31, 11, 13, 2, [0]), (270, 1, false, .aload_n 0, 0, 0, 0, []), (271, 3, false, .getfield 17, 11, 9, 2, [0]),
  (274, 1, false, .iconst 2, 2, 0, 0, []), (275, 1, false, .iaload, 0, 0, 0, []), (276, 1, false, .aaload, 0, 0, 0, []), (277, 1, false, .iload_n 3, 3, 0, 0, []),
  (278, 2, false, .iload 4, 4, 0, 0, []), (280, 3, false, .invokevirtual 213, 60, 4, 0, [0, 11]), (283, 3, false, .goto 191, 474, 0, 0, []), (286, 1, false, .aload_n 0, 0, 0, 0, []),
  (287, 1, false, .aload_n 0, 0, 0, 0, []), (288, 3, false, .getfield 37, 11, 15, 2, [0]), (291, 1, false, .aload_n 0, 0, 0, 0, []), (292, 3, false, .getfield 17, 11, 9, 2, [0]),
  (295, 1, false, .iconst 3, 3, 0, 0, []), (296, 1, false, .iaload, 0, 0, 0, []), (297, 1, false, .aaload, 0, 0, 0, []), (298, 1, false, .iload_n 3, 3, 0, 0, []),
  (299, 2, false, .iload 4, 4, 0, 0, []), (301, 3, false, .invokevirtual 217, 61, 4, 0, [0, 11]), (304, 3, false, .goto 170, 474, 0, 0, []), (307, 1, false, .aload_n 0, 0, 0, 0, []),
  (308, 1, false, .aload_n 0, 0, 0, 0, []), (309, 3, false, .getfield 43, 11, 17, 2, [0]), (312, 1, false, .aload_n 0, 0, 0, 0, []), (313, 3, false, .getfield 17, 11, 9, 2, [0]),
  (316, 1, false, .iconst 4, 4, 0, 0, []), (317, 1, false, .iaload, 0, 0, 0, []), (318, 1, false, .aaload, 0, 0, 0, []), (319, 1, false, .iload_n 3, 3, 0, 0, []),
  (320, 2, false, .iload 4, 4, 0, 0, []), (322, 3, false, .invokevirtual 220, 62, 4, 0, [0, 11]), (325, 3, false, .goto 149, 474, 0, 0, []), (328, 1, false, .aload_n 0, 0, 0, 0, []),
  (329, 3, false, .getfield 17, 11, 9, 2, [0]), (332, 1, false, .iconst 5, 5, 0, 0, []), (333, 1, false, .aload_n 0, 0, 0, 0, []), (334, 1, false, .iconst 0, 0, 0, 0, []),
  (335, 1, false, .iconst 2, 2, 0, 0, []), (336, 3, false, .invokevirtual 209, 52, 3, 0, [0, 11]), (339, 1, false, .iastore, 0, 0, 0, []), (340, 3, false, .goto 134, 474, 0, 0, []),
  (343, 1, false, .aload_n 0, 0, 0, 0, []), (344, 3, false, .getfield 17, 11, 9, 2, [0]), (347, 2, false, .bipush 6, 6, 0, 0, []), (349, 1, false, .aload_n 0, 0, 0, 0, []),
  (350, 1, false, .iconst 1, 1, 0, 0, []), (351, 2, false, .bipush 99, 99, 0, 0, []), (353, 3, false, .invokevirtual 209, 52, 3, 0, [0, 11]), (356, 1, false, .iastore, 0, 0, 0, []),
  (357, 3, false, .goto 117, 474, 0, 0, []), (360, 1, false, .aload_n 0, 0, 0, 0, []), (361, 3, false, .getfield 17, 11, 9, 2, [0]), (364, 2, false, .bipush 7, 7, 0, 0, []),
  (366, 1, false, .aload_n 0, 0, 0, 0, []), (367, 1, false, .iconst 1, 1, 0, 0, []), (368, 3, false, .sipush 999, 999, 0, 0, []), (371, 3, false, .invokevirtual 209, 52, 3, 0, [0, 11]),
  (374, 1, false, .iastore, 0, 0, 0, []), (375, 3, false, .goto 99, 474, 0, 0, []), (378, 1, false, .aload_n 0, 0, 0, 0, []), (379, 3, false, .getfield 17, 11, 9, 2, [0]),
  (382, 2, false, .bipush 8, 8, 0, 0, []), (384, 1, false, .aload_n 0, 0, 0, 0, []), (385, 1, false, .iconst 1, 1, 0, 0, []), (386, 2, false, .bipush 99, 99, 0, 0, []),
  (388, 3, false, .invokevirtual 209, 52, 3, 0, [0, 11]), (391, 1, false, .iastore, 0, 0, 0, []), (392, 3, false, .goto 82, 474, 0, 0, []), (395, 1, false, .aload_n 0, 0, 0, 0, []),
  (396, 3, false, .getfield 17, 11, 9, 2, [0]), (399, 2, false, .bipush 9, 9, 0, 0, []), (401, 1, false, .aload_n 0, 0, 0, 0, []), (402, 1, false, .iconst 0, 0, 0, 0, []),
  (403, 2, false, .bipush 9, 9, 0, 0, []), (405, 3, false, .invokevirtual 209, 52, 3, 0, [0, 11]), (408, 1, false, .iastore, 0, 0, 0, []), (409, 3, false, .goto 65, 474, 0, 0, []),
  (412, 1, false, .aload_n 0, 0, 0, 0, []), (413, 3, false, .getfield 25, 11, 11, 2, [0]), (416, 1, false, .aload_n 0, 0, 0, 0, []), (417, 3, false, .getfield 17, 11, 9, 2, [0]),
  (420, 2, false, .bipush 10, 10, 0, 0, []), (422, 1, false, .iaload, 0, 0, 0, []), (423, 1, false, .aaload, 0, 0, 0, []), (424, 2, false, .astore 5, 5, 0, 0, []),
  (426, 2, false, .aload 5, 5, 0, 0, []), (428, 1, false, .iconst 0, 0, 0, 0, []), (429, 1, false, .aload_n 0, 0, 0, 0, []), (430, 1, false, .iconst 0, 0, 0, 0, []),
  (431, 1, false, .iconst 2, 2, 0, 0, []), (432, 3, false, .invokevirtual 209, 52, 3, 0, [0, 11]), (435, 1, false, .iastore, 0, 0, 0, []), (436, 2, false, .aload 5, 5, 0, 0, []),
  (438, 1, false, .iconst 1, 1, 0, 0, []), (439, 1, false, .aload_n 0, 0, 0, 0, []), (440, 1, false, .iconst 0, 0, 0, 0, []), (441, 2, false, .bipush 49, 49, 0, 0, []),
  (443, 3, false, .invokevirtual 209, 52, 3, 0, [0, 11]), (446, 1, false, .iastore, 0, 0, 0, []), (447, 2, false, .aload 5, 5, 0, 0, []), (449, 1, false, .iconst 2, 2, 0, 0, []),
  (450, 1, false, .aload_n 0, 0, 0, 0, []), (451, 1, false, .iconst 0, 0, 0, 0, []), (452, 1, false, .iconst 2, 2, 0, 0, []), (453, 3, false, .invokevirtual 209, 52, 3, 0, [0, 11]),
  (456, 1, false, .iastore, 0, 0, 0, []), (457, 2, false, .aload 5, 5, 0, 0, []), (459, 1, false, .iconst 3, 3, 0, 0, []), (460, 1, false, .aload_n 0, 0, 0, 0, []),
  (461, 1, false, .iconst 0, 0, 0, 0, []), (462, 1, false, .iconst 2, 2, 0, 0, []), (463, 3, false, .invokevirtual 209, 52, 3, 0, [0, 11]), (466, 1, false, .iastore, 0, 0, 0, []),
  (467, 3, false, .goto 7, 474, 0, 0, []), (470, 1, false, .aload_n 0, 0, 0, 0, []), (471, 3, false, .invokevirtual 223, 63, 1, 0, [0, 11]), (474, 1, false, .iload_n 2, 2, 0, 0, []),
  (475, 3, false, .ifCond .eq 13, 488, 0, 0, []), (478, 1, false, .aload_n 0, 0, 0, 0, []), (479, 3, false, .getfield 17, 11, 9, 2, [0]), (482, 1, false, .iload_n 1, 1, 0, 0, []),
  (483, 1, false, .dup2, 0, 0, 0, []), (484, 1, false, .iaload, 0, 0, 0, []), (485, 1, false, .iconst 1, 1, 0, 0, []), (486, 1, false, .iadd, 0, 0, 0, []),
  (487, 1, false, .iastore, 0, 0, 0, []), (488, 1, false, .aload_n 0, 0, 0, 0, []), (489, 3, false, .invokevirtual 226, 56, 1, 0, [0, 11]), (492, 1, false, .return_, 0, 0, 0, [])]
def k_Mo_readsCloud : List El := [(0, 1, false, .aload_n 1, 1, 0, 0, []), (1, 1, false, .iconst 0, 0, 0, 0, []), (2, 1, false, .aload_n 0, 0, 0, 0, []), (3, 1, false, .iconst 0, 0, 0, 0, []),
  (4, 1, false, .iload_n 2, 2, 0, 0, []), (5, 3, false, .invokevirtual 209, 52, 3, 0, [0, 11]), (8, 1, false, .iastore, 0, 0, 0, []), (9, 1, false, .aload_n 1, 1, 0, 0, []),
  (10, 1, false, .iconst 1, 1, 0, 0, []), (11, 1, false, .aload_n 0, 0, 0, 0, []), (12, 1, false, .iconst 0, 0, 0, 0, []), (13, 1, false, .iload_n 3, 3, 0, 0, []),
  (14, 3, false, .invokevirtual 209, 52, 3, 0, [0, 11]), (17, 1, false, .iastore, 0, 0, 0, []), (18, 1, false, .aload_n 1, 1, 0, 0, []), (19, 1, false, .iconst 2, 2, 0, 0, []),
  (20, 1, false, .aload_n 0, 0, 0, 0, []), (21, 1, false, .iconst 0, 0, 0, 0, []), (22, 1, false, .iconst 2, 2, 0, 0, []), (23, 3, false, .invokevirtual 209, 52, 3, 0, [0, 11]),
  (26, 1, false, .iastore, 0, 0, 0, []), (27, 1, false, .aload_n 1, 1, 0, 0, []), (28, 1, false, .iconst 3, 3, 0, 0, []), (29, 1, false, .aload_n 0, 0, 0, 0, []),
  (30, 1, false, .iconst 0, 0, 0, 0, []), (31, 2, false, .bipush 49, 49, 0, 0, []), (33, 3, false, .invokevirtual 209, 52, 3, 0, [0, 11]), (36, 1, false, .iastore, 0, 0, 0, []),
  (37, 1, false, .aload_n 1, 1, 0, 0, []), (38, 1, false, .iconst 4, 4, 0, 0, []), (39, 1, false, .aload_n 0, 0, 0, 0, []), (40, 1, false, .iconst 1, 1, 0, 0, []),
  (41, 3, false, .sipush 999, 999, 0, 0, []), (44, 3, false, .invokevirtual 209, 52, 3, 0, [0, 11]), (47, 1, false, .iastore, 0, 0, 0, []), (48, 1, false, .aload_n 1, 1, 0, 0, []),
  (49, 1, false, .iconst 5, 5, 0, 0, []), (50, 2, false, .bipush 7, 7, 0, 0, []), (52, 1, false, .iastore, 0, 0, 0, []), (53, 1, false, .aload_n 1, 1, 0, 0, []),
  (54, 2, false, .bipush 6, 6, 0, 0, []), (56, 3, false, .sipush 1000, 1000, 0, 0, []), (59, 1, false, .iastore, 0, 0, 0, []), (60, 1, false, .return_, 0, 0, 0, [])]
def k_Mo_readsField : List El := [(0, 1, false, .aload_n 1, 1, 0, 0, []), (1, 1, false, .iconst 0, 0, 0, 0, []), (2, 1, false, .aload_n 0, 0, 0, 0, []), (3, 1, false, .iconst 0, 0, 0, 0, []),
  (4, 1, false, .iload_n 2, 2, 0, 0, []), (5, 3, false, .invokevirtual 209, 52, 3, 0, [0, 11]), (8, 1, false, .iastore, 0, 0, 0, []), (9, 1, false, .aload_n 0, 0, 0, 0, []),
  (10, 3, false, .invokevirtual 161, 49, 1, 0, [0, 11]), (13, 1, false, .aload_n 0, 0, 0, 0, []), (14, 3, false, .getfield 148, 11, 4, 0, [0]), (17, 2, false, .istore 4, 4, 0, 0, []),
  (19, 1, false, .aload_n 1, 1, 0, 0, []), (20, 1, false, .iconst 1, 1, 0, 0, []), (21, 1, false, .aload_n 0, 0, 0, 0, []), (22, 1, false, .iconst 0, 0, 0, 0, []),
  (23, 1, false, .iload_n 3, 3, 0, 0, []), (24, 3, false, .invokevirtual 209, 52, 3, 0, [0, 11]), (27, 1, false, .iastore, 0, 0, 0, []), (28, 1, false, .iconst 0, 0, 0, 0, []),
  (29, 2, false, .istore 5, 5, 0, 0, []), (31, 2, true, .iload 5, 5, 0, 0, []), (33, 1, false, .aload_n 0, 0, 0, 0, []), (34, 3, false, .getfield 17, 11, 9, 2, [0]),
  (37, 1, false, .iconst 3, 3, 0, 0, []), (38, 1, false, .iaload, 0, 0, 0, []), (39, 3, false, .if_icmp .ge 46, 85, 0, 0, []), (42, 1, false, .aload_n 0, 0, 0, 0, []),
  (43, 3, false, .getfield 37, 11, 15, 2, [0]), (46, 2, false, .iload 5, 5, 0, 0, []), (48, 1, false, .aaload, 0, 0, 0, []), (49, 1, false, .iconst 0, 0, 0, 0, []),
  (50, 1, false, .iaload, 0, 0, 0, []), (51, 1, false, .aload_n 1, 1, 0, 0, []), (52, 1, false, .iconst 0, 0, 0, 0, []), (53, 1, false, .iaload, 0, 0, 0, []),
  (54, 3, false, .if_icmp .ne 25, 79, 0, 0, []), (57, 1, false, .aload_n 0, 0, 0, 0, []), (58, 3, false, .getfield 37, 11, 15, 2, [0]), (61, 2, false, .iload 5, 5, 0, 0, []),
  (63, 1, false, .aaload, 0, 0, 0, []), (64, 1, false, .iconst 1, 1, 0, 0, []), (65, 1, false, .iaload, 0, 0, 0, []), (66, 1, false, .aload_n 1, 1, 0, 0, []),
  (67, 1, false, .iconst 1, 1, 0, 0, []), (68, 1, false, .iaload, 0, 0, 0, []), (69, 3, false, .if_icmp .ne 10, 79, 0, 0, []), (72, 1, false, .aload_n 0, 0, 0, 0, []),
  (73, 1, false, .iconst 2, 2, 0, 0, []), (74, 2, false, .iload 4, 4, 0, 0, []), (76, 3, false, .invokevirtual 168, 50, 3, 0, [0, 11]), (79, 3, false, .iinc 5 1, 5, 1, 0, []),
  (82, 3, false, .goto (-51), 31, 0, 0, []), (85, 1, false, .aload_n 1, 1, 0, 0, []), (86, 1, false, .iconst 2, 2, 0, 0, []), (87, 1, false, .aload_n 0, 0, 0, 0, []),
  (88, 1, false, .iconst 0, 0, 0, 0, []), (89, 2, false, .bipush 6, 6, 0, 0, []), (91, 3, false, .invokevirtual 209, 52, 3, 0, [0, 11]), (94, 1, false, .iastore, 0, 0, 0, []),
  (95, 1, false, .aload_n 1, 1, 0, 0, []), (96, 1, false, .iconst 3, 3, 0, 0, []), (97, 1, false, .aload_n 0, 0, 0, 0, []), (98, 1, false, .iconst 0, 0, 0, 0, []),
  (99, 2, false, .bipush 99, 99, 0, 0, []), (101, 3, false, .invokevirtual 209, 52, 3, 0, [0, 11]), (104, 1, false, .iastore, 0, 0, 0, []), (105, 1, false, .aload_n 1, 1, 0, 0, []),
  (106, 1, false, .iconst 4, 4, 0, 0, []), (107, 1, false, .aload_n 0, 0, 0, 0, []), (108, 1, false, .iconst 0, 0, 0, 0, []), (109, 2, false, .bipush 99, 99, 0, 0, []),
  (111, 3, false, .invokevirtual 209, 52, 3, 0, [0, 11]), (114, 1, false, .iastore, 0, 0, 0, []), (115, 1, false, .aload_n 1, 1, 0, 0, []), (116, 1, false, .iconst 5, 5, 0, 0, []),
  (117, 1, false, .aload_n 0, 0, 0, 0, []), (118, 1, false, .iconst 0, 0, 0, 0, []), (119, 2, false, .bipush 9, 9, 0, 0, []), (121, 3, false, .invokevirtual 209, 52, 3, 0, [0, 11]),
  (124, 1, false, .iastore, 0, 0, 0, []), (125, 1, false, .return_, 0, 0, 0, [])]
def k_Mo_readsIce : List El := [(0, 1, false, .aload_n 1, 1, 0, 0, []), (1, 1, false, .iconst 0, 0, 0, 0, []), (2, 1, false, .aload_n 0, 0, 0, 0, []), (3, 1, false, .iconst 0, 0, 0, 0, []),
  (4, 1, false, .iload_n 2, 2, 0, 0, []), (5, 3, false, .invokevirtual 209, 52, 3, 0, [0, 11]), (8, 1, false, .iastore, 0, 0, 0, []), (9, 1, false, .aload_n 0, 0, 0, 0, []),
  (10, 3, false, .invokevirtual 161, 49, 1, 0, [0, 11]), (13, 1, false, .aload_n 0, 0, 0, 0, []), (14, 3, false, .getfield 148, 11, 4, 0, [0]), (17, 2, false, .istore 4, 4, 0, 0, []),
  (19, 1, false, .aload_n 1, 1, 0, 0, []), (20, 1, false, .iconst 1, 1, 0, 0, []), (21, 1, false, .aload_n 0, 0, 0, 0, []), (22, 1, false, .iconst 0, 0, 0, 0, []),
  (23, 1, false, .iload_n 3, 3, 0, 0, []), (24, 1, false, .iconst 1, 1, 0, 0, []), (25, 1, false, .isub, 0, 0, 0, []), (26, 3, false, .invokevirtual 209, 52, 3, 0, [0, 11]),
  (29, 1, false, .iastore, 0, 0, 0, []), (30, 1, false, .iconst 0, 0, 0, 0, []), (31, 2, false, .istore 5, 5, 0, 0, []), (33, 2, true, .iload 5, 5, 0, 0, []),
  (35, 1, false, .aload_n 0, 0, 0, 0, []), (36, 3, false, .getfield 17, 11, 9, 2, [0]), (39, 1, false, .iconst 4, 4, 0, 0, []), (40, 1, false, .iaload, 0, 0, 0, []),
  (41, 3, false, .if_icmp .ge 46, 87, 0, 0, []), (44, 1, false, .aload_n 0, 0, 0, 0, []), (45, 3, false, .getfield 43, 11, 17, 2, [0]), (48, 2, false, .iload 5, 5, 0, 0, []),
  (50, 1, false, .aaload, 0, 0, 0, []), (51, 1, false, .iconst 0, 0, 0, 0, []), (52, 1, false, .iaload, 0, 0, 0, []), (53, 1, false, .aload_n 1, 1, 0, 0, []),
  (54, 1, false, .iconst 0, 0, 0, 0, []), (55, 1, false, .iaload, 0, 0, 0, []), (56, 3, false, .if_icmp .ne 25, 81, 0, 0, []), (59, 1, false, .aload_n 0, 0, 0, 0, []),
  (60, 3, false, .getfield 43, 11, 17, 2, [0]), (63, 2, false, .iload 5, 5, 0, 0, []), (65, 1, false, .aaload, 0, 0, 0, []), (66, 1, false, .iconst 1, 1, 0, 0, []),
  (67, 1, false, .iaload, 0, 0, 0, []), (68, 1, false, .aload_n 1, 1, 0, 0, []), (69, 1, false, .iconst 1, 1, 0, 0, []), (70, 1, false, .iaload, 0, 0, 0, []),
  (71, 3, false, .if_icmp .ne 10, 81, 0, 0, []), (74, 1, false, .aload_n 0, 0, 0, 0, []), (75, 1, false, .iconst 2, 2, 0, 0, []), (76, 2, false, .iload 4, 4, 0, 0, []),
  (78, 3, false, .invokevirtual 168, 50, 3, 0, [0, 11]), (81, 3, false, .iinc 5 1, 5, 1, 0, []), (84, 3, false, .goto (-51), 33, 0, 0, []), (87, 1, false, .aload_n 1, 1, 0, 0, []),
  (88, 1, false, .iconst 2, 2, 0, 0, []), (89, 1, false, .aload_n 0, 0, 0, 0, []), (90, 1, false, .iconst 0, 0, 0, 0, []), (91, 2, false, .bipush 49, 49, 0, 0, []),
  (93, 3, false, .invokevirtual 209, 52, 3, 0, [0, 11]), (96, 1, false, .iastore, 0, 0, 0, []), (97, 1, false, .return_, 0, 0, 0, [])]
def k_Mo_readsSeen : List El := [(0, 1, false, .aload_n 0, 0, 0, 0, []), (1, 1, false, .iconst 0, 0, 0, 0, []), (2, 1, false, .aload_n 0, 0, 0, 0, []), (3, 3, false, .getfield 17, 11, 9, 2, [0]),
  (6, 1, false, .iconst 2, 2, 0, 0, []), (7, 1, false, .iaload, 0, 0, 0, []), (8, 1, false, .iconst 1, 1, 0, 0, []), (9, 1, false, .isub, 0, 0, 0, []),
  (10, 3, false, .invokevirtual 209, 52, 3, 0, [0, 11]), (13, 1, false, .istore_n 1, 1, 0, 0, []), (14, 1, false, .aload_n 0, 0, 0, 0, []), (15, 1, false, .iconst 0, 0, 0, 0, []),
  (16, 2, false, .bipush 6, 6, 0, 0, []), (18, 3, false, .invokevirtual 209, 52, 3, 0, [0, 11]), (21, 1, false, .istore_n 2, 2, 0, 0, []), (22, 1, false, .aload_n 0, 0, 0, 0, []),
  (23, 1, false, .iconst 0, 0, 0, 0, []), (24, 3, false, .sipush 999, 999, 0, 0, []), (27, 3, false, .invokevirtual 209, 52, 3, 0, [0, 11]), (30, 1, false, .istore_n 3, 3, 0, 0, []),
  (31, 1, false, .aload_n 0, 0, 0, 0, []), (32, 3, false, .getfield 155, 11, 5, 0, [0]), (35, 3, false, .ifCond .ne 16, 51, 0, 0, []), (38, 1, false, .iload_n 3, 3, 0, 0, []),
  (39, 1, false, .aload_n 0, 0, 0, 0, []), (40, 3, false, .getfield 31, 11, 13, 2, [0]), (43, 1, false, .iload_n 1, 1, 0, 0, []), (44, 1, false, .aaload, 0, 0, 0, []),
  (45, 2, false, .bipush 6, 6, 0, 0, []), (47, 1, false, .iaload, 0, 0, 0, []), (48, 3, false, .if_icmp .lt 4, 52, 0, 0, []), (51, 1, false, .return_, 0, 0, 0, []),
  (52, 1, false, .aload_n 0, 0, 0, 0, []), (53, 3, false, .getfield 31, 11, 13, 2, [0]), (56, 1, false, .iload_n 1, 1, 0, 0, []), (57, 1, false, .aaload, 0, 0, 0, []),
  (58, 1, false, .iconst 5, 5, 0, 0, []), (59, 1, false, .iload_n 2, 2, 0, 0, []), (60, 1, false, .iastore, 0, 0, 0, []), (61, 1, false, .aload_n 0, 0, 0, 0, []),
  (62, 3, false, .getfield 31, 11, 13, 2, [0]), (65, 1, false, .iload_n 1, 1, 0, 0, []), (66, 1, false, .aaload, 0, 0, 0, []), (67, 2, false, .bipush 6, 6, 0, 0, []),
  (69, 1, false, .iload_n 3, 3, 0, 0, []), (70, 1, false, .iastore, 0, 0, 0, []), (71, 1, false, .return_, 0, 0, 0, [])]
def k_Mo_sky : List El := [(0, 1, false, .aload_n 0, 0, 0, 0, []), (1, 1, false, .iconst 0, 0, 0, 0, []), (2, 3, false, .putfield 139, 11, 0, 0, [0]), (5, 1, false, .aload_n 0, 0, 0, 0, []),
  (6, 1, false, .iload_n 1, 1, 0, 0, []), (7, 1, false, .iconst 0, 0, 0, 0, []), (8, 1, false, .aload_n 0, 0, 0, 0, []), (9, 3, false, .getfield 142, 11, 1, 0, [0]),
  (12, 3, false, .invokestatic 173, 46, 3, 0, [0]), (15, 3, false, .ifCond .ne 7, 22, 0, 0, []), (18, 1, false, .iconst 1, 1, 0, 0, []), (19, 3, false, .goto 4, 23, 0, 0, []),
  (22, 1, false, .iconst 0, 0, 0, 0, []), (23, 1, false, .iconst 1, 1, 0, 0, []), (24, 3, false, .invokevirtual 229, 45, 3, 0, [0, 11]), (27, 3, false, .ifCond .eq 5, 32, 0, 0, []),
  (30, 1, false, .iconst 0, 0, 0, 0, []), (31, 1, false, .ireturn, 0, 0, 0, []), (32, 1, false, .aload_n 0, 0, 0, 0, []), (33, 1, false, .iconst 0, 0, 0, 0, []),
  (34, 3, false, .putfield 142, 11, 1, 0, [0]), (37, 1, false, .aload_n 0, 0, 0, 0, []), (38, 1, false, .iload_n 1, 1, 0, 0, []), (39, 3, false, .putfield 145, 11, 2, 0, [0]),
  (42, 1, false, .aload_n 0, 0, 0, 0, []), (43, 1, false, .iconst 0, 0, 0, 0, []), (44, 3, false, .putfield 148, 11, 4, 0, [0]), (47, 1, false, .aload_n 0, 0, 0, 0, []),
  (48, 1, false, .iconst 0, 0, 0, 0, []), (49, 3, false, .putfield 155, 11, 5, 0, [0]), (52, 1, false, .aload_n 0, 0, 0, 0, []), (53, 1, false, .iconst (-1), 1, 0, 1, []),
  (54, 3, false, .putfield 158, 11, 6, 0, [0]), (57, 1, false, .aload_n 0, 0, 0, 0, []), (58, 1, false, .iconst 0, 0, 0, 0, []), (59, 3, false, .putfield 203, 11, 7, 0, [0]),
  (62, 1, false, .aload_n 0, 0, 0, 0, []), (63, 3, false, .invokevirtual 136, 43, 1, 0, [0, 11]), (66, 1, false, .aload_n 0, 0, 0, 0, []), (67, 3, false, .invokevirtual 161, 49, 1, 0, [0, 11]),
  (70, 1, true, .aload_n 0, 0, 0, 0, []), (71, 3, false, .getfield 155, 11, 5, 0, [0]), (74, 3, false, .ifCond .ne 25, 99, 0, 0, []), (77, 1, false, .aload_n 0, 0, 0, 0, []),
  (78, 3, false, .getfield 148, 11, 4, 0, [0]), (81, 1, false, .aload_n 0, 0, 0, 0, []), (82, 3, false, .getfield 145, 11, 2, 0, [0]), (85, 3, false, .if_icmp .ge 14, 99, 0, 0, []),
  (88, 1, false, .aload_n 0, 0, 0, 0, []), (89, 3, false, .invokevirtual 233, 59, 1, 0, [0, 11]), (92, 1, false, .aload_n 0, 0, 0, 0, []), (93, 3, false, .invokevirtual 161, 49, 1, 0, [0, 11]),
  (96, 3, false, .goto (-26), 70, 0, 0, []), (99, 1, false, .aload_n 0, 0, 0, 0, []), (100, 1, false, .aload_n 0, 0, 0, 0, []), (101, 3, false, .getfield 158, 11, 6, 0, [0]),
  (104, 3, false, .putfield 9, 11, 3, 0, [0]), (107, 1, false, .aload_n 0, 0, 0, 0, []), (108, 3, false, .getfield 155, 11, 5, 0, [0]), (111, 3, false, .ifCond .eq 11, 122, 0, 0, []),
  (114, 1, false, .aload_n 0, 0, 0, 0, []), (115, 3, false, .getfield 155, 11, 5, 0, [0]), (118, 2, false, .bipush 10, 10, 0, 0, []), (120, 1, false, .isub, 0, 0, 0, []),
  (121, 1, false, .ireturn, 0, 0, 0, []), (122, 1, false, .iconst 0, 0, 0, 0, []), (123, 1, false, .istore_n 2, 2, 0, 0, []), (124, 1, true, .iload_n 2, 2, 0, 0, []),
  (125, 2, false, .bipush 11, 11, 0, 0, []), (127, 3, false, .if_icmp .ge 21, 148, 0, 0, []), (130, 1, false, .aload_n 0, 0, 0, 0, []), (131, 3, false, .getfield 20, 11, 10, 2, [0]),
  (134, 1, false, .iload_n 2, 2, 0, 0, []), (135, 1, false, .aload_n 0, 0, 0, 0, []), (136, 3, false, .getfield 17, 11, 9, 2, [0]), (139, 1, false, .iload_n 2, 2, 0, 0, []),
  (140, 1, false, .iaload, 0, 0, 0, []), (141, 1, false, .iastore, 0, 0, 0, []), (142, 3, false, .iinc 2 1, 2, 1, 0, []), (145, 3, false, .goto (-21), 124, 0, 0, []),
  (148, 1, false, .iconst 0, 0, 0, 0, []), (149, 1, false, .istore_n 2, 2, 0, 0, []), (150, 1, true, .iload_n 2, 2, 0, 0, []), (151, 1, false, .aload_n 0, 0, 0, 0, []),
  (152, 3, false, .getfield 20, 11, 10, 2, [0]), (155, 2, false, .bipush 10, 10, 0, 0, []), (157, 1, false, .iaload, 0, 0, 0, []), (158, 3, false, .if_icmp .ge 38, 196, 0, 0, []),
  (161, 1, false, .iconst 0, 0, 0, 0, []), (162, 1, false, .istore_n 3, 3, 0, 0, []), (163, 1, true, .iload_n 3, 3, 0, 0, []), (164, 1, false, .iconst 4, 4, 0, 0, []),
  (165, 3, false, .if_icmp .ge 25, 190, 0, 0, []), (168, 1, false, .aload_n 0, 0, 0, 0, []), (169, 3, false, .getfield 28, 11, 12, 2, [0]), (172, 1, false, .iload_n 2, 2, 0, 0, []),
  (173, 1, false, .aaload, 0, 0, 0, []), (174, 1, false, .iload_n 3, 3, 0, 0, []), (175, 1, false, .aload_n 0, 0, 0, 0, []), (176, 3, false, .getfield 25, 11, 11, 2, [0]),
  (179, 1, false, .iload_n 2, 2, 0, 0, []), (180, 1, false, .aaload, 0, 0, 0, []), (181, 1, false, .iload_n 3, 3, 0, 0, []), (182, 1, false, .iaload, 0, 0, 0, []),
  (183, 1, false, .iastore, 0, 0, 0, []), (184, 3, false, .iinc 3 1, 3, 1, 0, []), (187, 3, false, .goto (-24), 163, 0, 0, []), (190, 3, false, .iinc 2 1, 2, 1, 0, []),
  (193, 3, false, .goto (-43), 150, 0, 0, []), (196, 1, false, .iconst 0, 0, 0, 0, []), (197, 1, false, .istore_n 2, 2, 0, 0, []), (198, 1, true, .iload_n 2, 2, 0, 0, []),
  (199, 1, false, .aload_n 0, 0, 0, 0, []), (200, 3, false, .getfield 20, 11, 10, 2, [0]), (203, 1, false, .iconst 2, 2, 0, 0, []), (204, 1, false, .iaload, 0, 0, 0, []),
  (205, 3, false, .if_icmp .ge 39, 244, 0, 0, []), (208, 1, false, .iconst 0, 0, 0, 0, []), (209, 1, false, .istore_n 3, 3, 0, 0, []), (210, 1, true, .iload_n 3, 3, 0, 0, []),
  (211, 2, false, .bipush 7, 7, 0, 0, []), (213, 3, false, .if_icmp .ge 25, 238, 0, 0, []), (216, 1, false, .aload_n 0, 0, 0, 0, []), (217, 3, false, .getfield 34, 11, 14, 2, [0]),
  (220, 1, false, .iload_n 2, 2, 0, 0, []), (221, 1, false, .aaload, 0, 0, 0, []), (222, 1, false, .iload_n 3, 3, 0, 0, []), (223, 1, false, .aload_n 0, 0, 0, 0, []),
  (224, 3, false, .getfield 31, 11, 13, 2, [0]), (227, 1, false, .iload_n 2, 2, 0, 0, []), (228, 1, false, .aaload, 0, 0, 0, []), (229, 1, false, .iload_n 3, 3, 0, 0, []),
  (230, 1, false, .iaload, 0, 0, 0, []), (231, 1, false, .iastore, 0, 0, 0, []), (232, 3, false, .iinc 3 1, 3, 1, 0, []), (235, 3, false, .goto (-25), 210, 0, 0, []),
  (238, 3, false, .iinc 2 1, 2, 1, 0, []), (241, 3, false, .goto (-43), 198, 0, 0, []), (244, 1, false, .iconst 0, 0, 0, 0, []), (245, 1, false, .istore_n 2, 2, 0, 0, []),
  (246, 1, true, .iload_n 2, 2, 0, 0, []), (247, 1, false, .aload_n 0, 0, 0, 0, []), (248, 3, false, .getfield 20, 11, 10, 2, [0]), (251, 1, false, .iconst 3, 3, 0, 0, []),
  (252, 1, false, .iaload, 0, 0, 0, []), (253, 3, false, .if_icmp .ge 39, 292, 0, 0, []), (256, 1, false, .iconst 0, 0, 0, 0, []), (257, 1, false, .istore_n 3, 3, 0, 0, []),
  (258, 1, true, .iload_n 3, 3, 0, 0, []), (259, 2, false, .bipush 6, 6, 0, 0, []), (261, 3, false, .if_icmp .ge 25, 286, 0, 0, []), (264, 1, false, .aload_n 0, 0, 0, 0, []),
  (265, 3, false, .getfield 40, 11, 16, 2, [0]), (268, 1, false, .iload_n 2, 2, 0, 0, []), (269, 1, false, .aaload, 0, 0, 0, []), (270, 1, false, .iload_n 3, 3, 0, 0, []),
  (271, 1, false, .aload_n 0, 0, 0, 0, []), (272, 3, false, .getfield 37, 11, 15, 2, [0]), (275, 1, false, .iload_n 2, 2, 0, 0, []), (276, 1, false, .aaload, 0, 0, 0, []),
  (277, 1, false, .iload_n 3, 3, 0, 0, []), (278, 1, false, .iaload, 0, 0, 0, []), (279, 1, false, .iastore, 0, 0, 0, []), (280, 3, false, .iinc 3 1, 3, 1, 0, []),
  (283, 3, false, .goto (-25), 258, 0, 0, []), (286, 3, false, .iinc 2 1, 2, 1, 0, []), (289, 3, false, .goto (-43), 246, 0, 0, []), (292, 1, false, .iconst 0, 0, 0, 0, []),
  (293, 1, false, .istore_n 2, 2, 0, 0, []), (294, 1, true, .iload_n 2, 2, 0, 0, []), (295, 1, false, .aload_n 0, 0, 0, 0, []), (296, 3, false, .getfield 20, 11, 10, 2, [0]),
  (299, 1, false, .iconst 4, 4, 0, 0, []), (300, 1, false, .iaload, 0, 0, 0, []), (301, 3, false, .if_icmp .ge 38, 339, 0, 0, []), (304, 1, false, .iconst 0, 0, 0, 0, []),
  (305, 1, false, .istore_n 3, 3, 0, 0, []), (306, 1, true, .iload_n 3, 3, 0, 0, []), (307, 1, false, .iconst 3, 3, 0, 0, []), (308, 3, false, .if_icmp .ge 25, 333, 0, 0, []),
  (311, 1, false, .aload_n 0, 0, 0, 0, []), (312, 3, false, .getfield 46, 11, 18, 2, [0]), (315, 1, false, .iload_n 2, 2, 0, 0, []), (316, 1, false, .aaload, 0, 0, 0, []),
  (317, 1, false, .iload_n 3, 3, 0, 0, []), (318, 1, false, .aload_n 0, 0, 0, 0, []), (319, 3, false, .getfield 43, 11, 17, 2, [0]), (322, 1, false, .iload_n 2, 2, 0, 0, []),
  (323, 1, false, .aaload, 0, 0, 0, []), (324, 1, false, .iload_n 3, 3, 0, 0, []), (325, 1, false, .iaload, 0, 0, 0, []), (326, 1, false, .iastore, 0, 0, 0, []),
  (327, 3, false, .iinc 3 1, 3, 1, 0, []), (330, 3, false, .goto (-24), 306, 0, 0, []), (333, 3, false, .iinc 2 1, 2, 1, 0, []), (336, 3, false, .goto (-42), 294, 0, 0, []),
  (339, 1, false, .aload_n 0, 0, 0, 0, []), (340, 1, false, .iconst 0, 0, 0, 0, []), (341, 3, false, .putfield 236, 11, 19, 0, [0]), (344, 1, false, .aload_n 0, 0, 0, 0, []),
  (345, 1, false, .iconst 0, 0, 0, 0, []), (346, 3, false, .putfield 239, 11, 20, 0, [0]), (349, 1, false, .aload_n 0, 0, 0, 0, []), (350, 1, false, .iconst 0, 0, 0, 0, []),
  (351, 3, false, .putfield 242, 11, 21, 0, [0]), (354, 1, false, .aload_n 0, 0, 0, 0, []), (355, 1, false, .iconst 0, 0, 0, 0, []), (356, 3, false, .putfield 245, 11, 22, 0, [0]),
  (359, 1, false, .aload_n 0, 0, 0, 0, []), (360, 3, false, .getfield 20, 11, 10, 2, [0]), (363, 1, false, .iconst 2, 2, 0, 0, []), (364, 1, false, .iaload, 0, 0, 0, []),
  (365, 1, false, .ireturn, 0, 0, 0, [])]
def k_Mo_fault : List El := [(0, 1, false, .aload_n 0, 0, 0, 0, []), (1, 1, false, .iconst 0, 0, 0, 0, []), (2, 3, false, .putfield 139, 11, 0, 0, [0]), (5, 1, false, .aload_n 0, 0, 0, 0, []),
  (6, 3, false, .getfield 9, 11, 3, 0, [0]), (9, 1, false, .ireturn, 0, 0, 0, [])]
def k_Mo_told : List El := [(0, 1, false, .aload_n 0, 0, 0, 0, []), (1, 1, false, .iconst 0, 0, 0, 0, []), (2, 3, false, .putfield 139, 11, 0, 0, [0]), (5, 1, false, .aload_n 0, 0, 0, 0, []),
  (6, 1, false, .iload_n 1, 1, 0, 0, []), (7, 1, false, .iconst 0, 0, 0, 0, []), (8, 2, false, .bipush 9, 9, 0, 0, []), (10, 3, false, .invokestatic 173, 46, 3, 0, [0]),
  (13, 3, false, .ifCond .ne 7, 20, 0, 0, []), (16, 1, false, .iconst 1, 1, 0, 0, []), (17, 3, false, .goto 4, 21, 0, 0, []), (20, 1, false, .iconst 0, 0, 0, 0, []),
  (21, 1, false, .iconst 1, 1, 0, 0, []), (22, 3, false, .invokevirtual 229, 45, 3, 0, [0, 11]), (25, 3, false, .ifCond .eq 5, 30, 0, 0, []), (28, 1, false, .iconst 0, 0, 0, 0, []),
  (29, 1, false, .ireturn, 0, 0, 0, []), (30, 1, false, .aload_n 0, 0, 0, 0, []), (31, 3, false, .getfield 20, 11, 10, 2, [0]), (34, 1, false, .iload_n 1, 1, 0, 0, []),
  (35, 1, false, .iaload, 0, 0, 0, []), (36, 1, false, .ireturn, 0, 0, 0, [])]
def k_Mo_isCloud : List El := [(0, 1, false, .iload_n 1, 1, 0, 0, []), (1, 1, false, .iconst 0, 0, 0, 0, []), (2, 1, false, .aload_n 0, 0, 0, 0, []), (3, 3, false, .getfield 20, 11, 10, 2, [0]),
  (6, 1, false, .iconst 2, 2, 0, 0, []), (7, 1, false, .iaload, 0, 0, 0, []), (8, 1, false, .iconst 1, 1, 0, 0, []), (9, 1, false, .isub, 0, 0, 0, []),
  (10, 3, false, .invokestatic 173, 46, 3, 0, [0]), (13, 1, false, .ireturn, 0, 0, 1, [])]
def k_Mo_owner : List El := [(0, 1, false, .aload_n 0, 0, 0, 0, []), (1, 1, false, .iconst 0, 0, 0, 0, []), (2, 3, false, .putfield 139, 11, 0, 0, [0]), (5, 1, false, .aload_n 0, 0, 0, 0, []),
  (6, 1, false, .aload_n 0, 0, 0, 0, []), (7, 1, false, .iload_n 1, 1, 0, 0, []), (8, 3, false, .invokevirtual 248, 67, 2, 0, [0, 11]), (11, 3, false, .ifCond .ne 7, 18, 0, 0, []),
  (14, 1, false, .iconst 1, 1, 0, 0, []), (15, 3, false, .goto 4, 19, 0, 0, []), (18, 1, false, .iconst 0, 0, 0, 0, []), (19, 1, false, .iconst 1, 1, 0, 0, []),
  (20, 3, false, .invokevirtual 229, 45, 3, 0, [0, 11]), (23, 3, false, .ifCond .eq 5, 28, 0, 0, []), (26, 1, false, .iconst 0, 0, 0, 0, []), (27, 1, false, .ireturn, 0, 0, 0, []),
  (28, 1, false, .aload_n 0, 0, 0, 0, []), (29, 3, false, .getfield 34, 11, 14, 2, [0]), (32, 1, false, .iload_n 1, 1, 0, 0, []), (33, 1, false, .aaload, 0, 0, 0, []),
  (34, 1, false, .iconst 5, 5, 0, 0, []), (35, 1, false, .iaload, 0, 0, 0, []), (36, 1, false, .ireturn, 0, 0, 0, [])]
def k_Mo_isHour : List El := [(0, 1, false, .iload_n 0, 0, 0, 0, []), (1, 1, false, .iconst 0, 0, 0, 0, []), (2, 2, false, .bipush 49, 49, 0, 0, []), (4, 3, false, .invokestatic 173, 46, 3, 0, [0]),
  (7, 1, false, .ireturn, 0, 0, 1, [])]
def k_Mo_windOf : List El := [(0, 1, false, .iconst (-1), 1, 0, 1, []), (1, 1, false, .istore_n 3, 3, 0, 0, []), (2, 1, false, .iconst 0, 0, 0, 0, []), (3, 2, false, .istore 4, 4, 0, 0, []),
  (5, 2, true, .iload 4, 4, 0, 0, []), (7, 1, false, .aload_n 0, 0, 0, 0, []), (8, 3, false, .getfield 20, 11, 10, 2, [0]), (11, 2, false, .bipush 10, 10, 0, 0, []),
  (13, 1, false, .iaload, 0, 0, 0, []), (14, 3, false, .if_icmp .ge 63, 77, 0, 0, []), (17, 1, false, .aload_n 0, 0, 0, 0, []), (18, 3, false, .getfield 28, 11, 12, 2, [0]),
  (21, 2, false, .iload 4, 4, 0, 0, []), (23, 1, false, .aaload, 0, 0, 0, []), (24, 1, false, .iconst 0, 0, 0, 0, []), (25, 1, false, .iaload, 0, 0, 0, []),
  (26, 1, false, .iload_n 1, 1, 0, 0, []), (27, 3, false, .if_icmp .ne 44, 71, 0, 0, []), (30, 1, false, .aload_n 0, 0, 0, 0, []), (31, 3, false, .getfield 28, 11, 12, 2, [0]),
  (34, 2, false, .iload 4, 4, 0, 0, []), (36, 1, false, .aaload, 0, 0, 0, []), (37, 1, false, .iconst 1, 1, 0, 0, []), (38, 1, false, .iaload, 0, 0, 0, []),
  (39, 1, false, .iload_n 2, 2, 0, 0, []), (40, 3, false, .if_icmp .gt 31, 71, 0, 0, []), (43, 1, false, .iload_n 3, 3, 0, 0, []), (44, 1, false, .iconst (-1), 1, 0, 1, []),
  (45, 3, false, .if_icmp .eq 23, 68, 0, 0, []), (48, 1, false, .aload_n 0, 0, 0, 0, []), (49, 3, false, .getfield 28, 11, 12, 2, [0]), (52, 2, false, .iload 4, 4, 0, 0, []),
  (54, 1, false, .aaload, 0, 0, 0, []), (55, 1, false, .iconst 1, 1, 0, 0, []), (56, 1, false, .iaload, 0, 0, 0, []), (57, 1, false, .aload_n 0, 0, 0, 0, []),
  (58, 3, false, .getfield 28, 11, 12, 2, [0]), (61, 1, false, .iload_n 3, 3, 0, 0, []), (62, 1, false, .aaload, 0, 0, 0, []), (63, 1, false, .iconst 1, 1, 0, 0, []),
  (64, 1, false, .iaload, 0, 0, 0, []), (65, 3, false, .if_icmp .lt 6, 71, 0, 0, []), (68, 2, false, .iload 4, 4, 0, 0, []), (70, 1, false, .istore_n 3, 3, 0, 0, []),
  (71, 3, false, .iinc 4 1, 4, 1, 0, []), (74, 3, false, .goto (-69), 5, 0, 0, []), (77, 1, false, .iload_n 3, 3, 0, 0, []), (78, 1, false, .ireturn, 0, 0, 0, [])]
def k_Mo_blows : List El := [(0, 1, false, .aload_n 0, 0, 0, 0, []), (1, 1, false, .iload_n 1, 1, 0, 0, []), (2, 1, false, .iload_n 2, 2, 0, 0, []), (3, 3, false, .invokevirtual 251, 70, 3, 0, [0, 11]),
  (6, 2, false, .istore 4, 4, 0, 0, []), (8, 2, false, .iload 4, 4, 0, 0, []), (10, 1, false, .iconst (-1), 1, 0, 1, []), (11, 3, false, .if_icmp .ne 7, 18, 0, 0, []),
  (14, 1, false, .iconst 0, 0, 0, 0, []), (15, 3, false, .goto 16, 31, 0, 0, []), (18, 1, false, .aload_n 0, 0, 0, 0, []), (19, 3, false, .getfield 28, 11, 12, 2, [0]),
  (22, 2, false, .iload 4, 4, 0, 0, []), (24, 1, false, .aaload, 0, 0, 0, []), (25, 1, false, .iconst 2, 2, 0, 0, []), (26, 1, false, .iload_n 3, 3, 0, 0, []),
  (27, 1, false, .iadd, 0, 0, 0, []), (28, 1, false, .iaload, 0, 0, 0, []), (29, 1, false, .iconst 1, 1, 0, 0, []), (30, 1, false, .isub, 0, 0, 0, []),
  (31, 1, false, .ireturn, 0, 0, 0, [])]
def k_Mo_isIn : List El := [(0, 1, false, .iload_n 1, 1, 0, 0, []), (1, 1, false, .iconst 0, 0, 0, 0, []), (2, 1, false, .aload_n 0, 0, 0, 0, []), (3, 3, false, .getfield 20, 11, 10, 2, [0]),
  (6, 1, false, .iconst 0, 0, 0, 0, []), (7, 1, false, .iaload, 0, 0, 0, []), (8, 1, false, .iconst 1, 1, 0, 0, []), (9, 1, false, .isub, 0, 0, 0, []),
  (10, 3, false, .invokestatic 173, 46, 3, 0, [0]), (13, 3, false, .ifCond .eq 23, 36, 0, 0, []), (16, 1, false, .iload_n 2, 2, 0, 0, []), (17, 1, false, .iconst 0, 0, 0, 0, []),
  (18, 1, false, .aload_n 0, 0, 0, 0, []), (19, 3, false, .getfield 20, 11, 10, 2, [0]), (22, 1, false, .iconst 1, 1, 0, 0, []), (23, 1, false, .iaload, 0, 0, 0, []),
  (24, 1, false, .iconst 1, 1, 0, 0, []), (25, 1, false, .isub, 0, 0, 0, []), (26, 3, false, .invokestatic 173, 46, 3, 0, [0]), (29, 3, false, .ifCond .eq 7, 36, 0, 0, []),
  (32, 1, false, .iconst 1, 1, 0, 0, []), (33, 3, false, .goto 4, 37, 0, 0, []), (36, 1, false, .iconst 0, 0, 0, 0, []), (37, 1, false, .ireturn, 0, 0, 1, [])]
def k_Mo_laysAlone : List El := [(0, 1, false, .aload_n 0, 0, 0, 0, []), (1, 3, false, .getfield 34, 11, 14, 2, [0]), (4, 1, false, .iload_n 1, 1, 0, 0, []), (5, 1, false, .aaload, 0, 0, 0, []),
  (6, 1, false, .iconst 0, 0, 0, 0, []), (7, 1, false, .iaload, 0, 0, 0, []), (8, 1, false, .istore_n 2, 2, 0, 0, []), (9, 1, false, .aload_n 0, 0, 0, 0, []),
  (10, 3, false, .getfield 34, 11, 14, 2, [0]), (13, 1, false, .iload_n 1, 1, 0, 0, []), (14, 1, false, .aaload, 0, 0, 0, []), (15, 1, false, .iconst 1, 1, 0, 0, []),
  (16, 1, false, .iaload, 0, 0, 0, []), (17, 1, false, .istore_n 3, 3, 0, 0, []), (18, 1, false, .iconst 1, 1, 0, 0, []), (19, 2, false, .istore 4, 4, 0, 0, []),
  (21, 1, false, .iconst 0, 0, 0, 0, []), (22, 2, false, .istore 5, 5, 0, 0, []), (24, 2, true, .iload 5, 5, 0, 0, []), (26, 2, false, .bipush 50, 50, 0, 0, []),
  (28, 3, false, .if_icmp .ge 109, 137, 0, 0, []), (31, 2, false, .iload 5, 5, 0, 0, []), (33, 1, false, .aload_n 0, 0, 0, 0, []), (34, 3, false, .getfield 34, 11, 14, 2, [0]),
  (37, 1, false, .iload_n 1, 1, 0, 0, []), (38, 1, false, .aaload, 0, 0, 0, []), (39, 1, false, .iconst 3, 3, 0, 0, []), (40, 1, false, .iaload, 0, 0, 0, []),
  (41, 3, false, .if_icmp .le 52, 93, 0, 0, []), (44, 2, false, .iload 4, 4, 0, 0, []), (46, 3, false, .ifCond .eq 47, 93, 0, 0, []), (49, 1, false, .iload_n 2, 2, 0, 0, []),
  (50, 1, false, .aload_n 0, 0, 0, 0, []), (51, 1, false, .aload_n 0, 0, 0, 0, []), (52, 3, false, .getfield 34, 11, 14, 2, [0]), (55, 1, false, .iload_n 1, 1, 0, 0, []),
  (56, 1, false, .aaload, 0, 0, 0, []), (57, 1, false, .iconst 2, 2, 0, 0, []), (58, 1, false, .iaload, 0, 0, 0, []), (59, 2, false, .iload 5, 5, 0, 0, []),
  (61, 1, false, .iconst 0, 0, 0, 0, []), (62, 3, false, .invokevirtual 254, 71, 4, 0, [0, 11]), (65, 1, false, .iadd, 0, 0, 0, []), (66, 1, false, .istore_n 2, 2, 0, 0, []),
  (67, 1, false, .iload_n 3, 3, 0, 0, []), (68, 1, false, .aload_n 0, 0, 0, 0, []), (69, 1, false, .aload_n 0, 0, 0, 0, []), (70, 3, false, .getfield 34, 11, 14, 2, [0]),
  (73, 1, false, .iload_n 1, 1, 0, 0, []), (74, 1, false, .aaload, 0, 0, 0, []), (75, 1, false, .iconst 2, 2, 0, 0, []), (76, 1, false, .iaload, 0, 0, 0, []),
  (77, 2, false, .iload 5, 5, 0, 0, []), (79, 1, false, .iconst 1, 1, 0, 0, []), (80, 3, false, .invokevirtual 254, 71, 4, 0, [0, 11]), (83, 1, false, .iadd, 0, 0, 0, []),
  (84, 1, false, .istore_n 3, 3, 0, 0, []), (85, 1, false, .aload_n 0, 0, 0, 0, []), (86, 1, false, .iload_n 2, 2, 0, 0, []), (87, 1, false, .iload_n 3, 3, 0, 0, []),
  (88, 3, false, .invokevirtual 258, 72, 3, 0, [0, 11]), (91, 2, false, .istore 4, 4, 0, 0, []), (93, 1, false, .aload_n 0, 0, 0, 0, []), (94, 3, false, .getfield 107, 11, 50, 2, [0]),
  (97, 2, false, .iload 5, 5, 0, 0, []), (99, 2, false, .iload 5, 5, 0, 0, []), (101, 1, false, .aload_n 0, 0, 0, 0, []), (102, 3, false, .getfield 34, 11, 14, 2, [0]),
  (105, 1, false, .iload_n 1, 1, 0, 0, []), (106, 1, false, .aaload, 0, 0, 0, []), (107, 1, false, .iconst 3, 3, 0, 0, []), (108, 1, false, .iaload, 0, 0, 0, []),
  (109, 3, false, .if_icmp .lt 12, 121, 0, 0, []), (112, 2, false, .iload 4, 4, 0, 0, []), (114, 3, false, .ifCond .eq 7, 121, 0, 0, []), (117, 1, false, .iload_n 2, 2, 0, 0, []),
  (118, 3, false, .goto 4, 122, 0, 0, []), (121, 1, false, .iconst (-1), 1, 0, 1, []), (122, 1, false, .iastore, 0, 0, 0, []), (123, 1, false, .aload_n 0, 0, 0, 0, []),
  (124, 3, false, .getfield 110, 11, 51, 2, [0]), (127, 2, false, .iload 5, 5, 0, 0, []), (129, 1, false, .iload_n 3, 3, 0, 0, []), (130, 1, false, .iastore, 0, 0, 0, []),
  (131, 3, false, .iinc 5 1, 5, 1, 0, []), (134, 3, false, .goto (-110), 24, 0, 0, []), (137, 1, false, .return_, 0, 0, 0, [])]
def k_Mo_path : List El := [(0, 1, false, .aload_n 0, 0, 0, 0, []), (1, 1, false, .iconst 0, 0, 0, 0, []), (2, 3, false, .putfield 139, 11, 0, 0, [0]), (5, 1, false, .aload_n 0, 0, 0, 0, []),
  (6, 1, false, .aload_n 0, 0, 0, 0, []), (7, 1, false, .iload_n 1, 1, 0, 0, []), (8, 3, false, .invokevirtual 248, 67, 2, 0, [0, 11]), (11, 3, false, .ifCond .ne 7, 18, 0, 0, []),
  (14, 1, false, .iconst 1, 1, 0, 0, []), (15, 3, false, .goto 4, 19, 0, 0, []), (18, 1, false, .iconst 0, 0, 0, 0, []), (19, 1, false, .iconst 1, 1, 0, 0, []),
  (20, 3, false, .invokevirtual 229, 45, 3, 0, [0, 11]), (23, 3, false, .ifCond .ne 23, 46, 0, 0, []), (26, 1, false, .aload_n 0, 0, 0, 0, []), (27, 1, false, .iload_n 2, 2, 0, 0, []),
  (28, 3, false, .invokestatic 262, 69, 1, 0, [0]), (31, 3, false, .ifCond .ne 7, 38, 0, 0, []), (34, 1, false, .iconst 1, 1, 0, 0, []), (35, 3, false, .goto 4, 39, 0, 0, []),
  (38, 1, false, .iconst 0, 0, 0, 0, []), (39, 1, false, .iconst 2, 2, 0, 0, []), (40, 3, false, .invokevirtual 229, 45, 3, 0, [0, 11]), (43, 3, false, .ifCond .eq 5, 48, 0, 0, []),
  (46, 1, false, .iconst 0, 0, 0, 0, []), (47, 1, false, .ireturn, 0, 0, 0, []), (48, 1, false, .aload_n 0, 0, 0, 0, []), (49, 1, false, .iload_n 1, 1, 0, 0, []),
  (50, 3, false, .invokevirtual 265, 73, 2, 0, [0, 11]), (53, 1, false, .aload_n 0, 0, 0, 0, []), (54, 3, false, .getfield 107, 11, 50, 2, [0]), (57, 1, false, .iload_n 2, 2, 0, 0, []),
  (58, 1, false, .iaload, 0, 0, 0, []), (59, 1, false, .iconst (-1), 1, 0, 1, []), (60, 3, false, .if_icmp .ne 7, 67, 0, 0, []), (63, 1, false, .iconst (-1), 1, 0, 1, []),
  (64, 3, false, .goto 19, 83, 0, 0, []), (67, 2, false, .bipush 100, 100, 0, 0, []), (69, 1, false, .aload_n 0, 0, 0, 0, []), (70, 3, false, .getfield 107, 11, 50, 2, [0]),
  (73, 1, false, .iload_n 2, 2, 0, 0, []), (74, 1, false, .iaload, 0, 0, 0, []), (75, 1, false, .imul, 0, 0, 0, []), (76, 1, false, .aload_n 0, 0, 0, 0, []),
  (77, 3, false, .getfield 110, 11, 51, 2, [0]), (80, 1, false, .iload_n 2, 2, 0, 0, []), (81, 1, false, .iaload, 0, 0, 0, []), (82, 1, false, .iadd, 0, 0, 0, []),
  (83, 1, false, .ireturn, 0, 0, 0, [])]
def k_Mo_isField : List El := [(0, 1, false, .iload_n 1, 1, 0, 0, []), (1, 1, false, .iconst 0, 0, 0, 0, []), (2, 1, false, .aload_n 0, 0, 0, 0, []), (3, 3, false, .getfield 20, 11, 10, 2, [0]),
  (6, 1, false, .iconst 3, 3, 0, 0, []), (7, 1, false, .iaload, 0, 0, 0, []), (8, 1, false, .iconst 1, 1, 0, 0, []), (9, 1, false, .isub, 0, 0, 0, []),
  (10, 3, false, .invokestatic 173, 46, 3, 0, [0]), (13, 1, false, .ireturn, 0, 0, 1, [])]
def k_Mo_field : List El := [(0, 1, false, .aload_n 0, 0, 0, 0, []), (1, 1, false, .iconst 0, 0, 0, 0, []), (2, 3, false, .putfield 139, 11, 0, 0, [0]), (5, 1, false, .aload_n 0, 0, 0, 0, []),
  (6, 1, false, .aload_n 0, 0, 0, 0, []), (7, 1, false, .iload_n 1, 1, 0, 0, []), (8, 3, false, .invokevirtual 269, 75, 2, 0, [0, 11]), (11, 3, false, .ifCond .ne 7, 18, 0, 0, []),
  (14, 1, false, .iconst 1, 1, 0, 0, []), (15, 3, false, .goto 4, 19, 0, 0, []), (18, 1, false, .iconst 0, 0, 0, 0, []), (19, 1, false, .iconst 1, 1, 0, 0, []),
  (20, 3, false, .invokevirtual 229, 45, 3, 0, [0, 11]), (23, 3, false, .ifCond .ne 25, 48, 0, 0, []), (26, 1, false, .aload_n 0, 0, 0, 0, []), (27, 1, false, .iload_n 2, 2, 0, 0, []),
  (28, 1, false, .iconst 0, 0, 0, 0, []), (29, 1, false, .iconst 5, 5, 0, 0, []), (30, 3, false, .invokestatic 173, 46, 3, 0, [0]), (33, 3, false, .ifCond .ne 7, 40, 0, 0, []),
  (36, 1, false, .iconst 1, 1, 0, 0, []), (37, 3, false, .goto 4, 41, 0, 0, []), (40, 1, false, .iconst 0, 0, 0, 0, []), (41, 1, false, .iconst 2, 2, 0, 0, []),
  (42, 3, false, .invokevirtual 229, 45, 3, 0, [0, 11]), (45, 3, false, .ifCond .eq 5, 50, 0, 0, []), (48, 1, false, .iconst 0, 0, 0, 0, []), (49, 1, false, .ireturn, 0, 0, 0, []),
  (50, 1, false, .aload_n 0, 0, 0, 0, []), (51, 3, false, .getfield 40, 11, 16, 2, [0]), (54, 1, false, .iload_n 1, 1, 0, 0, []), (55, 1, false, .aaload, 0, 0, 0, []),
  (56, 1, false, .iload_n 2, 2, 0, 0, []), (57, 1, false, .iaload, 0, 0, 0, []), (58, 1, false, .ireturn, 0, 0, 0, [])]
def k_Mo_order : List El := [(0, 1, false, .aload_n 0, 0, 0, 0, []), (1, 1, false, .iconst 0, 0, 0, 0, []), (2, 3, false, .putfield 139, 11, 0, 0, [0]), (5, 1, false, .aload_n 0, 0, 0, 0, []),
  (6, 1, false, .aload_n 0, 0, 0, 0, []), (7, 1, false, .iload_n 2, 2, 0, 0, []), (8, 3, false, .invokevirtual 248, 67, 2, 0, [0, 11]), (11, 3, false, .ifCond .ne 7, 18, 0, 0, []),
  (14, 1, false, .iconst 1, 1, 0, 0, []), (15, 3, false, .goto 4, 19, 0, 0, []), (18, 1, false, .iconst 0, 0, 0, 0, []), (19, 1, false, .iconst 1, 1, 0, 0, []),
  (20, 3, false, .invokevirtual 229, 45, 3, 0, [0, 11]), (23, 3, false, .ifCond .ne 70, 93, 0, 0, []), (26, 1, false, .aload_n 0, 0, 0, 0, []), (27, 1, false, .iload_n 1, 1, 0, 0, []),
  (28, 3, false, .invokestatic 262, 69, 1, 0, [0]), (31, 3, false, .ifCond .eq 50, 81, 0, 0, []), (34, 1, false, .iload_n 3, 3, 0, 0, []), (35, 1, false, .iconst 0, 0, 0, 0, []),
  (36, 1, false, .iconst 2, 2, 0, 0, []), (37, 3, false, .invokestatic 173, 46, 3, 0, [0]), (40, 3, false, .ifCond .eq 41, 81, 0, 0, []), (43, 2, false, .iload 4, 4, 0, 0, []),
  (45, 1, false, .iload_n 3, 3, 0, 0, []), (46, 3, false, .ifCond .ne 7, 53, 0, 0, []), (49, 1, false, .iconst 1, 1, 0, 0, []), (50, 3, false, .goto 4, 54, 0, 0, []),
  (53, 1, false, .iconst 0, 0, 0, 0, []), (54, 1, false, .iload_n 3, 3, 0, 0, []), (55, 3, false, .ifCond .ne 9, 64, 0, 0, []), (58, 3, false, .sipush 999, 999, 0, 0, []),
  (61, 3, false, .goto 14, 75, 0, 0, []), (64, 1, false, .iload_n 3, 3, 0, 0, []), (65, 1, false, .iconst 1, 1, 0, 0, []), (66, 3, false, .if_icmp .ne 8, 74, 0, 0, []),
  (69, 2, false, .bipush 8, 8, 0, 0, []), (71, 3, false, .goto 4, 75, 0, 0, []), (74, 1, false, .iconst 0, 0, 0, 0, []), (75, 3, false, .invokestatic 173, 46, 3, 0, [0]),
  (78, 3, false, .ifCond .ne 7, 85, 0, 0, []), (81, 1, false, .iconst 1, 1, 0, 0, []), (82, 3, false, .goto 4, 86, 0, 0, []), (85, 1, false, .iconst 0, 0, 0, 0, []),
  (86, 1, false, .iconst 2, 2, 0, 0, []), (87, 3, false, .invokevirtual 229, 45, 3, 0, [0, 11]), (90, 3, false, .ifCond .eq 5, 95, 0, 0, []), (93, 1, false, .iconst 0, 0, 0, 0, []),
  (94, 1, false, .ireturn, 0, 0, 0, []), (95, 1, false, .aload_n 0, 0, 0, 0, []), (96, 3, false, .getfield 236, 11, 19, 0, [0]), (99, 2, false, .bipush 30, 30, 0, 0, []),
  (101, 3, false, .if_icmp .ne 5, 106, 0, 0, []), (104, 1, false, .iconst (-1), 1, 0, 1, []), (105, 1, false, .ireturn, 0, 0, 0, []), (106, 1, false, .aload_n 0, 0, 0, 0, []),
  (107, 3, false, .getfield 49, 11, 24, 2, [0]), (110, 1, false, .aload_n 0, 0, 0, 0, []), (111, 3, false, .getfield 236, 11, 19, 0, [0]), (114, 1, false, .aaload, 0, 0, 0, []),
  (115, 1, false, .iconst 0, 0, 0, 0, []), (116, 1, false, .iload_n 1, 1, 0, 0, []), (117, 1, false, .iastore, 0, 0, 0, []), (118, 1, false, .aload_n 0, 0, 0, 0, []),
  (119, 3, false, .getfield 49, 11, 24, 2, [0]), (122, 1, false, .aload_n 0, 0, 0, 0, []), (123, 3, false, .getfield 236, 11, 19, 0, [0]), (126, 1, false, .aaload, 0, 0, 0, []),
  (127, 1, false, .iconst 1, 1, 0, 0, []), (128, 1, false, .iload_n 2, 2, 0, 0, []), (129, 1, false, .iastore, 0, 0, 0, []), (130, 1, false, .aload_n 0, 0, 0, 0, []),
  (131, 3, false, .getfield 49, 11, 24, 2, [0]), (134, 1, false, .aload_n 0, 0, 0, 0, []), (135, 3, false, .getfield 236, 11, 19, 0, [0]), (138, 1, false, .aaload, 0, 0, 0, []),
  (139, 1, false, .iconst 2, 2, 0, 0, []), (140, 1, false, .iload_n 3, 3, 0, 0, []), (141, 1, false, .iastore, 0, 0, 0, []), (142, 1, false, .aload_n 0, 0, 0, 0, []),
  (143, 3, false, .getfield 49, 11, 24, 2, [0]), (146, 1, false, .aload_n 0, 0, 0, 0, []), (147, 3, false, .getfield 236, 11, 19, 0, [0]), (150, 1, false, .aaload, 0, 0, 0, []),
  (151, 1, false, .iconst 3, 3, 0, 0, []), (152, 2, false, .iload 4, 4, 0, 0, []), (154, 1, false, .iastore, 0, 0, 0, []), (155, 1, false, .aload_n 0, 0, 0, 0, []),
  (156, 1, false, .dup, 0, 0, 0, []), (157, 3, false, .getfield 236, 11, 19, 0, [0]), (160, 1, false, .iconst 1, 1, 0, 0, []), (161, 1, false, .iadd, 0, 0, 0, []),
  (162, 3, false, .putfield 236, 11, 19, 0, [0]), (165, 1, false, .aload_n 0, 0, 0, 0, []), (166, 3, false, .getfield 236, 11, 19, 0, [0]), (169, 1, false, .ireturn, 0, 0, 0, [])]
def k_Mo_clear : List El := [(0, 1, false, .aload_n 0, 0, 0, 0, []), (1, 1, false, .iconst 0, 0, 0, 0, []), (2, 3, false, .putfield 139, 11, 0, 0, [0]), (5, 1, false, .aload_n 0, 0, 0, 0, []),
  (6, 3, false, .getfield 236, 11, 19, 0, [0]), (9, 1, false, .istore_n 1, 1, 0, 0, []), (10, 1, false, .aload_n 0, 0, 0, 0, []), (11, 1, false, .iconst 0, 0, 0, 0, []),
  (12, 3, false, .putfield 236, 11, 19, 0, [0]), (15, 1, false, .iload_n 1, 1, 0, 0, []), (16, 1, false, .ireturn, 0, 0, 0, [])]
def k_Mo_sum : List El := [(0, 1, false, .iconst 0, 0, 0, 0, []), (1, 1, false, .istore_n 1, 1, 0, 0, []), (2, 1, false, .iconst 0, 0, 0, 0, []), (3, 1, false, .istore_n 2, 2, 0, 0, []),
  (4, 1, true, .iload_n 2, 2, 0, 0, []), (5, 2, false, .bipush 8, 8, 0, 0, []), (7, 3, false, .if_icmp .ge 15, 22, 0, 0, []), (10, 1, false, .iload_n 1, 1, 0, 0, []),
  (11, 1, false, .aload_n 0, 0, 0, 0, []), (12, 1, false, .iload_n 2, 2, 0, 0, []), (13, 1, false, .iaload, 0, 0, 0, []), (14, 1, false, .iadd, 0, 0, 0, []),
  (15, 1, false, .istore_n 1, 1, 0, 0, []), (16, 3, false, .iinc 2 1, 2, 1, 0, []), (19, 3, false, .goto (-15), 4, 0, 0, []), (22, 1, false, .iload_n 1, 1, 0, 0, []),
  (23, 1, false, .ireturn, 0, 0, 0, [])]
def k_Mo_mostOf8 : List El := [(0, 1, false, .iconst 0, 0, 0, 0, []), (1, 1, false, .istore_n 1, 1, 0, 0, []), (2, 1, false, .iconst 1, 1, 0, 0, []), (3, 1, false, .istore_n 2, 2, 0, 0, []),
  (4, 1, true, .iload_n 2, 2, 0, 0, []), (5, 2, false, .bipush 8, 8, 0, 0, []), (7, 3, false, .if_icmp .ge 24, 31, 0, 0, []), (10, 1, false, .aload_n 0, 0, 0, 0, []),
  (11, 1, false, .iload_n 2, 2, 0, 0, []), (12, 1, false, .iaload, 0, 0, 0, []), (13, 1, false, .aload_n 0, 0, 0, 0, []), (14, 1, false, .iload_n 1, 1, 0, 0, []),
  (15, 1, false, .iaload, 0, 0, 0, []), (16, 3, false, .if_icmp .le 7, 23, 0, 0, []), (19, 1, false, .iload_n 2, 2, 0, 0, []), (20, 3, false, .goto 4, 24, 0, 0, []),
  (23, 1, false, .iload_n 1, 1, 0, 0, []), (24, 1, false, .istore_n 1, 1, 0, 0, []), (25, 3, false, .iinc 2 1, 2, 1, 0, []), (28, 3, false, .goto (-24), 4, 0, 0, []),
  (31, 1, false, .iload_n 1, 1, 0, 0, []), (32, 1, false, .ireturn, 0, 0, 0, [])]
def k_Mo_begins : List El := [(0, 1, false, .aload_n 0, 0, 0, 0, []), (1, 1, false, .iload_n 1, 1, 0, 0, []), (2, 3, false, .putfield 272, 11, 49, 0, [0]), (5, 1, false, .aload_n 0, 0, 0, 0, []),
  (6, 1, false, .iconst 0, 0, 0, 0, []), (7, 3, false, .putfield 275, 11, 43, 0, [0]), (10, 1, false, .aload_n 0, 0, 0, 0, []), (11, 1, false, .iconst 0, 0, 0, 0, []),
  (12, 3, false, .putfield 278, 11, 44, 0, [0]), (15, 1, false, .aload_n 0, 0, 0, 0, []), (16, 1, false, .iconst 0, 0, 0, 0, []), (17, 3, false, .putfield 281, 11, 45, 0, [0]),
  (20, 1, false, .aload_n 0, 0, 0, 0, []), (21, 1, false, .iconst 0, 0, 0, 0, []), (22, 3, false, .putfield 284, 11, 46, 0, [0]), (25, 1, false, .aload_n 0, 0, 0, 0, []),
  (26, 1, false, .iconst 0, 0, 0, 0, []), (27, 3, false, .putfield 287, 11, 47, 0, [0]), (30, 1, false, .aload_n 0, 0, 0, 0, []), (31, 1, false, .iconst 0, 0, 0, 0, []),
  (32, 3, false, .putfield 290, 11, 48, 0, [0]), (35, 1, false, .iconst 0, 0, 0, 0, []), (36, 1, false, .istore_n 2, 2, 0, 0, []), (37, 1, true, .iload_n 2, 2, 0, 0, []),
  (38, 1, false, .aload_n 0, 0, 0, 0, []), (39, 3, false, .getfield 20, 11, 10, 2, [0]), (42, 1, false, .iconst 2, 2, 0, 0, []), (43, 1, false, .iaload, 0, 0, 0, []),
  (44, 3, false, .if_icmp .ge 16, 60, 0, 0, []), (47, 1, false, .aload_n 0, 0, 0, 0, []), (48, 3, false, .getfield 61, 11, 28, 2, [0]), (51, 1, false, .iload_n 2, 2, 0, 0, []),
  (52, 1, false, .iconst 0, 0, 0, 0, []), (53, 1, false, .bastore, 0, 0, 0, []), (54, 3, false, .iinc 2 1, 2, 1, 0, []), (57, 3, false, .goto (-20), 37, 0, 0, []),
  (60, 1, false, .iconst 0, 0, 0, 0, []), (61, 1, false, .istore_n 2, 2, 0, 0, []), (62, 1, true, .iload_n 2, 2, 0, 0, []), (63, 1, false, .aload_n 0, 0, 0, 0, []),
  (64, 3, false, .getfield 20, 11, 10, 2, [0]), (67, 1, false, .iconst 3, 3, 0, 0, []), (68, 1, false, .iaload, 0, 0, 0, []), (69, 3, false, .if_icmp .ge 37, 106, 0, 0, []),
  (72, 1, false, .aload_n 0, 0, 0, 0, []), (73, 3, false, .getfield 92, 11, 38, 2, [0]), (76, 1, false, .iload_n 2, 2, 0, 0, []), (77, 1, false, .aload_n 0, 0, 0, 0, []),
  (78, 3, false, .getfield 40, 11, 16, 2, [0]), (81, 1, false, .iload_n 2, 2, 0, 0, []), (82, 1, false, .aaload, 0, 0, 0, []), (83, 1, false, .iconst 3, 3, 0, 0, []),
  (84, 1, false, .iaload, 0, 0, 0, []), (85, 1, false, .iastore, 0, 0, 0, []), (86, 1, false, .aload_n 0, 0, 0, 0, []), (87, 3, false, .getfield 95, 11, 39, 2, [0]),
  (90, 1, false, .iload_n 2, 2, 0, 0, []), (91, 1, false, .iconst 0, 0, 0, 0, []), (92, 1, false, .iastore, 0, 0, 0, []), (93, 1, false, .aload_n 0, 0, 0, 0, []),
  (94, 3, false, .getfield 98, 11, 40, 2, [0]), (97, 1, false, .iload_n 2, 2, 0, 0, []), (98, 1, false, .iconst (-1), 1, 0, 1, []), (99, 1, false, .iastore, 0, 0, 0, []),
  (100, 3, false, .iinc 2 1, 2, 1, 0, []), (103, 3, false, .goto (-41), 62, 0, 0, []), (106, 1, false, .iconst 0, 0, 0, 0, []), (107, 1, false, .istore_n 2, 2, 0, 0, []),
  (108, 1, true, .iload_n 2, 2, 0, 0, []), (109, 2, false, .bipush 8, 8, 0, 0, []), (111, 3, false, .if_icmp .ge 54, 165, 0, 0, []), (114, 1, false, .iconst 0, 0, 0, 0, []),
  (115, 1, false, .istore_n 3, 3, 0, 0, []), (116, 1, true, .iload_n 3, 3, 0, 0, []), (117, 1, false, .iconst 3, 3, 0, 0, []), (118, 3, false, .if_icmp .ge 27, 145, 0, 0, []),
  (121, 1, false, .aload_n 0, 0, 0, 0, []), (122, 3, false, .getfield 89, 11, 37, 2, [0]), (125, 1, false, .iload_n 2, 2, 0, 0, []), (126, 1, false, .aaload, 0, 0, 0, []),
  (127, 1, false, .iload_n 3, 3, 0, 0, []), (128, 1, false, .iconst 0, 0, 0, 0, []), (129, 1, false, .iastore, 0, 0, 0, []), (130, 1, false, .aload_n 0, 0, 0, 0, []),
  (131, 3, false, .getfield 86, 11, 36, 2, [0]), (134, 1, false, .iload_n 3, 3, 0, 0, []), (135, 1, false, .aaload, 0, 0, 0, []), (136, 1, false, .iload_n 2, 2, 0, 0, []),
  (137, 1, false, .iconst 0, 0, 0, 0, []), (138, 1, false, .iastore, 0, 0, 0, []), (139, 3, false, .iinc 3 1, 3, 1, 0, []), (142, 3, false, .goto (-26), 116, 0, 0, []),
  (145, 1, false, .aload_n 0, 0, 0, 0, []), (146, 3, false, .getfield 101, 11, 41, 2, [0]), (149, 1, false, .iload_n 2, 2, 0, 0, []), (150, 1, false, .iconst 0, 0, 0, 0, []),
  (151, 1, false, .iastore, 0, 0, 0, []), (152, 1, false, .aload_n 0, 0, 0, 0, []), (153, 3, false, .getfield 104, 11, 42, 2, [0]), (156, 1, false, .iload_n 2, 2, 0, 0, []),
  (157, 1, false, .iconst 0, 0, 0, 0, []), (158, 1, false, .iastore, 0, 0, 0, []), (159, 3, false, .iinc 2 1, 2, 1, 0, []), (162, 3, false, .goto (-54), 108, 0, 0, []),
  (165, 1, false, .return_, 0, 0, 0, [])]
def k_Mo_moves : List El := [(0, 1, false, .iconst 0, 0, 0, 0, []), (1, 1, false, .istore_n 2, 2, 0, 0, []), (2, 1, true, .iload_n 2, 2, 0, 0, []), (3, 1, false, .aload_n 0, 0, 0, 0, []),
  (4, 3, false, .getfield 20, 11, 10, 2, [0]), (7, 1, false, .iconst 2, 2, 0, 0, []), (8, 1, false, .iaload, 0, 0, 0, []), (9, 3, false, .if_icmp .ge 234, 243, 0, 0, []),
  (12, 1, false, .aload_n 0, 0, 0, 0, []), (13, 3, false, .getfield 61, 11, 28, 2, [0]), (16, 1, false, .iload_n 2, 2, 0, 0, []), (17, 1, false, .baload, 0, 0, 0, []),
  (18, 3, false, .ifCond .eq 99, 117, 0, 0, []), (21, 1, false, .aload_n 0, 0, 0, 0, []), (22, 3, false, .getfield 65, 11, 29, 2, [0]), (25, 1, false, .iload_n 2, 2, 0, 0, []),
  (26, 1, false, .dup2, 0, 0, 0, []), (27, 1, false, .iaload, 0, 0, 0, []), (28, 1, false, .aload_n 0, 0, 0, 0, []), (29, 1, false, .aload_n 0, 0, 0, 0, []),
  (30, 3, false, .getfield 34, 11, 14, 2, [0]), (33, 1, false, .iload_n 2, 2, 0, 0, []), (34, 1, false, .aaload, 0, 0, 0, []), (35, 1, false, .iconst 2, 2, 0, 0, []),
  (36, 1, false, .iaload, 0, 0, 0, []), (37, 1, false, .iload_n 1, 1, 0, 0, []), (38, 1, false, .iconst 0, 0, 0, 0, []), (39, 3, false, .invokevirtual 254, 71, 4, 0, [0, 11]),
  (42, 1, false, .iadd, 0, 0, 0, []), (43, 1, false, .iastore, 0, 0, 0, []), (44, 1, false, .aload_n 0, 0, 0, 0, []), (45, 3, false, .getfield 68, 11, 30, 2, [0]),
  (48, 1, false, .iload_n 2, 2, 0, 0, []), (49, 1, false, .dup2, 0, 0, 0, []), (50, 1, false, .iaload, 0, 0, 0, []), (51, 1, false, .aload_n 0, 0, 0, 0, []),
  (52, 1, false, .aload_n 0, 0, 0, 0, []), (53, 3, false, .getfield 34, 11, 14, 2, [0]), (56, 1, false, .iload_n 2, 2, 0, 0, []), (57, 1, false, .aaload, 0, 0, 0, []),
  (58, 1, false, .iconst 2, 2, 0, 0, []), (59, 1, false, .iaload, 0, 0, 0, []), (60, 1, false, .iload_n 1, 1, 0, 0, []), (61, 1, false, .iconst 1, 1, 0, 0, []),
  (62, 3, false, .invokevirtual 254, 71, 4, 0, [0, 11]), (65, 1, false, .iadd, 0, 0, 0, []), (66, 1, false, .iastore, 0, 0, 0, []), (67, 1, false, .aload_n 0, 0, 0, 0, []),
  (68, 1, false, .aload_n 0, 0, 0, 0, []), (69, 3, false, .getfield 65, 11, 29, 2, [0]), (72, 1, false, .iload_n 2, 2, 0, 0, []), (73, 1, false, .iaload, 0, 0, 0, []),
  (74, 1, false, .aload_n 0, 0, 0, 0, []), (75, 3, false, .getfield 68, 11, 30, 2, [0]), (78, 1, false, .iload_n 2, 2, 0, 0, []), (79, 1, false, .iaload, 0, 0, 0, []),
  (80, 3, false, .invokevirtual 258, 72, 3, 0, [0, 11]), (83, 3, false, .ifCond .eq 6, 89, 0, 0, []), (86, 3, false, .goto 151, 237, 0, 0, []), (89, 1, false, .aload_n 0, 0, 0, 0, []),
  (90, 3, false, .getfield 61, 11, 28, 2, [0]), (93, 1, false, .iload_n 2, 2, 0, 0, []), (94, 1, false, .iconst 0, 0, 0, 0, []), (95, 1, false, .bastore, 0, 0, 0, []),
  (96, 1, false, .aload_n 0, 0, 0, 0, []), (97, 1, false, .dup, 0, 0, 0, []), (98, 3, false, .getfield 275, 11, 43, 0, [0]), (101, 1, false, .aload_n 0, 0, 0, 0, []),
  (102, 3, false, .getfield 80, 11, 34, 2, [0]), (105, 1, false, .iload_n 2, 2, 0, 0, []), (106, 1, false, .aaload, 0, 0, 0, []), (107, 3, false, .invokestatic 293, 79, 1, 0, [0]),
  (110, 1, false, .iadd, 0, 0, 0, []), (111, 3, false, .putfield 275, 11, 43, 0, [0]), (114, 3, false, .goto 123, 237, 0, 0, []), (117, 1, false, .aload_n 0, 0, 0, 0, []),
  (118, 3, false, .getfield 34, 11, 14, 2, [0]), (121, 1, false, .iload_n 2, 2, 0, 0, []), (122, 1, false, .aaload, 0, 0, 0, []), (123, 1, false, .iconst 3, 3, 0, 0, []),
  (124, 1, false, .iaload, 0, 0, 0, []), (125, 1, false, .iload_n 1, 1, 0, 0, []), (126, 3, false, .if_icmp .ne 111, 237, 0, 0, []), (129, 1, false, .aload_n 0, 0, 0, 0, []),
  (130, 3, false, .getfield 61, 11, 28, 2, [0]), (133, 1, false, .iload_n 2, 2, 0, 0, []), (134, 1, false, .iconst 1, 1, 0, 0, []), (135, 1, false, .bastore, 0, 0, 0, []),
  (136, 1, false, .aload_n 0, 0, 0, 0, []), (137, 3, false, .getfield 65, 11, 29, 2, [0]), (140, 1, false, .iload_n 2, 2, 0, 0, []), (141, 1, false, .aload_n 0, 0, 0, 0, []),
  (142, 3, false, .getfield 34, 11, 14, 2, [0]), (145, 1, false, .iload_n 2, 2, 0, 0, []), (146, 1, false, .aaload, 0, 0, 0, []), (147, 1, false, .iconst 0, 0, 0, 0, []),
  (148, 1, false, .iaload, 0, 0, 0, []), (149, 1, false, .iastore, 0, 0, 0, []), (150, 1, false, .aload_n 0, 0, 0, 0, []), (151, 3, false, .getfield 68, 11, 30, 2, [0]),
  (154, 1, false, .iload_n 2, 2, 0, 0, []), (155, 1, false, .aload_n 0, 0, 0, 0, []), (156, 3, false, .getfield 34, 11, 14, 2, [0]), (159, 1, false, .iload_n 2, 2, 0, 0, []),
  (160, 1, false, .aaload, 0, 0, 0, []), (161, 1, false, .iconst 1, 1, 0, 0, []), (162, 1, false, .iaload, 0, 0, 0, []), (163, 1, false, .iastore, 0, 0, 0, []),
  (164, 1, false, .aload_n 0, 0, 0, 0, []), (165, 3, false, .getfield 71, 11, 31, 2, [0]), (168, 1, false, .iload_n 2, 2, 0, 0, []), (169, 1, false, .aload_n 0, 0, 0, 0, []),
  (170, 3, false, .getfield 34, 11, 14, 2, [0]), (173, 1, false, .iload_n 2, 2, 0, 0, []), (174, 1, false, .aaload, 0, 0, 0, []), (175, 1, false, .iconst 5, 5, 0, 0, []),
  (176, 1, false, .iaload, 0, 0, 0, []), (177, 1, false, .iastore, 0, 0, 0, []), (178, 1, false, .aload_n 0, 0, 0, 0, []), (179, 3, false, .getfield 74, 11, 32, 2, [0]),
  (182, 1, false, .iload_n 2, 2, 0, 0, []), (183, 1, false, .aload_n 0, 0, 0, 0, []), (184, 3, false, .getfield 34, 11, 14, 2, [0]), (187, 1, false, .iload_n 2, 2, 0, 0, []),
  (188, 1, false, .aaload, 0, 0, 0, []), (189, 2, false, .bipush 6, 6, 0, 0, []), (191, 1, false, .iaload, 0, 0, 0, []), (192, 1, false, .iastore, 0, 0, 0, []),
  (193, 1, false, .iconst 0, 0, 0, 0, []), (194, 1, false, .istore_n 3, 3, 0, 0, []), (195, 1, true, .iload_n 3, 3, 0, 0, []), (196, 2, false, .bipush 8, 8, 0, 0, []),
  (198, 3, false, .if_icmp .ge 39, 237, 0, 0, []), (201, 1, false, .aload_n 0, 0, 0, 0, []), (202, 3, false, .getfield 80, 11, 34, 2, [0]), (205, 1, false, .iload_n 2, 2, 0, 0, []),
  (206, 1, false, .aaload, 0, 0, 0, []), (207, 1, false, .iload_n 3, 3, 0, 0, []), (208, 1, false, .iload_n 3, 3, 0, 0, []), (209, 1, false, .aload_n 0, 0, 0, 0, []),
  (210, 3, false, .getfield 71, 11, 31, 2, [0]), (213, 1, false, .iload_n 2, 2, 0, 0, []), (214, 1, false, .iaload, 0, 0, 0, []), (215, 3, false, .if_icmp .ne 14, 229, 0, 0, []),
  (218, 1, false, .aload_n 0, 0, 0, 0, []), (219, 3, false, .getfield 34, 11, 14, 2, [0]), (222, 1, false, .iload_n 2, 2, 0, 0, []), (223, 1, false, .aaload, 0, 0, 0, []),
  (224, 1, false, .iconst 4, 4, 0, 0, []), (225, 1, false, .iaload, 0, 0, 0, []), (226, 3, false, .goto 4, 230, 0, 0, []), (229, 1, false, .iconst 0, 0, 0, 0, []),
  (230, 1, false, .iastore, 0, 0, 0, []), (231, 3, false, .iinc 3 1, 3, 1, 0, []), (234, 3, false, .goto (-39), 195, 0, 0, []), (237, 3, false, .iinc 2 1, 2, 1, 0, []),
  (240, 3, false, .goto (-238), 2, 0, 0, []), (243, 1, false, .return_, 0, 0, 0, [])]
def k_Mo_joinsAll : List El := [(0, 1, false, .iconst 0, 0, 0, 0, []), (1, 1, false, .istore_n 1, 1, 0, 0, []), (2, 1, true, .iload_n 1, 1, 0, 0, []), (3, 1, false, .aload_n 0, 0, 0, 0, []),
  (4, 3, false, .getfield 20, 11, 10, 2, [0]), (7, 1, false, .iconst 2, 2, 0, 0, []), (8, 1, false, .iaload, 0, 0, 0, []), (9, 3, false, .if_icmp .ge 95, 104, 0, 0, []),
  (12, 1, false, .iconst 0, 0, 0, 0, []), (13, 1, false, .istore_n 2, 2, 0, 0, []), (14, 1, true, .iload_n 2, 2, 0, 0, []), (15, 1, false, .iload_n 1, 1, 0, 0, []),
  (16, 3, false, .if_icmp .ge 82, 98, 0, 0, []), (19, 1, false, .aload_n 0, 0, 0, 0, []), (20, 3, false, .getfield 61, 11, 28, 2, [0]), (23, 1, false, .iload_n 1, 1, 0, 0, []),
  (24, 1, false, .baload, 0, 0, 0, []), (25, 3, false, .ifCond .eq 73, 98, 0, 0, []), (28, 1, false, .aload_n 0, 0, 0, 0, []), (29, 3, false, .getfield 61, 11, 28, 2, [0]),
  (32, 1, false, .iload_n 2, 2, 0, 0, []), (33, 1, false, .baload, 0, 0, 0, []), (34, 3, false, .ifCond .eq 58, 92, 0, 0, []), (37, 1, false, .aload_n 0, 0, 0, 0, []),
  (38, 3, false, .getfield 65, 11, 29, 2, [0]), (41, 1, false, .iload_n 2, 2, 0, 0, []), (42, 1, false, .iaload, 0, 0, 0, []), (43, 1, false, .aload_n 0, 0, 0, 0, []),
  (44, 3, false, .getfield 65, 11, 29, 2, [0]), (47, 1, false, .iload_n 1, 1, 0, 0, []), (48, 1, false, .iaload, 0, 0, 0, []), (49, 3, false, .if_icmp .ne 43, 92, 0, 0, []),
  (52, 1, false, .aload_n 0, 0, 0, 0, []), (53, 3, false, .getfield 68, 11, 30, 2, [0]), (56, 1, false, .iload_n 2, 2, 0, 0, []), (57, 1, false, .iaload, 0, 0, 0, []),
  (58, 1, false, .aload_n 0, 0, 0, 0, []), (59, 3, false, .getfield 68, 11, 30, 2, [0]), (62, 1, false, .iload_n 1, 1, 0, 0, []), (63, 1, false, .iaload, 0, 0, 0, []),
  (64, 3, false, .if_icmp .ne 28, 92, 0, 0, []), (67, 1, false, .aload_n 0, 0, 0, 0, []), (68, 3, false, .getfield 34, 11, 14, 2, [0]), (71, 1, false, .iload_n 2, 2, 0, 0, []),
  (72, 1, false, .aaload, 0, 0, 0, []), (73, 1, false, .iconst 2, 2, 0, 0, []), (74, 1, false, .iaload, 0, 0, 0, []), (75, 1, false, .aload_n 0, 0, 0, 0, []),
  (76, 3, false, .getfield 34, 11, 14, 2, [0]), (79, 1, false, .iload_n 1, 1, 0, 0, []), (80, 1, false, .aaload, 0, 0, 0, []), (81, 1, false, .iconst 2, 2, 0, 0, []),
  (82, 1, false, .iaload, 0, 0, 0, []), (83, 3, false, .if_icmp .ne 9, 92, 0, 0, []), (86, 1, false, .aload_n 0, 0, 0, 0, []), (87, 1, false, .iload_n 1, 1, 0, 0, []),
  (88, 1, false, .iload_n 2, 2, 0, 0, []), (89, 3, false, .invokevirtual 297, 84, 3, 0, [0, 11]), (92, 3, false, .iinc 2 1, 2, 1, 0, []), (95, 3, false, .goto (-81), 14, 0, 0, []),
  (98, 3, false, .iinc 1 1, 1, 1, 0, []), (101, 3, false, .goto (-99), 2, 0, 0, []), (104, 1, false, .return_, 0, 0, 0, [])]
def k_Mo_joinsTo : List El := [(0, 1, false, .aload_n 0, 0, 0, 0, []), (1, 3, false, .getfield 20, 11, 10, 2, [0]), (4, 1, false, .iconst 5, 5, 0, 0, []), (5, 1, false, .iaload, 0, 0, 0, []),
  (6, 3, false, .ifCond .ne 26, 32, 0, 0, []), (9, 1, false, .aload_n 0, 0, 0, 0, []), (10, 3, false, .getfield 74, 11, 32, 2, [0]), (13, 1, false, .iload_n 1, 1, 0, 0, []),
  (14, 1, false, .iaload, 0, 0, 0, []), (15, 1, false, .aload_n 0, 0, 0, 0, []), (16, 3, false, .getfield 74, 11, 32, 2, [0]), (19, 1, false, .iload_n 2, 2, 0, 0, []),
  (20, 1, false, .iaload, 0, 0, 0, []), (21, 3, false, .if_icmp .ge 7, 28, 0, 0, []), (24, 1, false, .iconst 1, 1, 0, 0, []), (25, 3, false, .goto 33, 58, 0, 0, []),
  (28, 1, false, .iconst 0, 0, 0, 0, []), (29, 3, false, .goto 29, 58, 0, 0, []), (32, 1, false, .aload_n 0, 0, 0, 0, []), (33, 3, false, .getfield 80, 11, 34, 2, [0]),
  (36, 1, false, .iload_n 1, 1, 0, 0, []), (37, 1, false, .aaload, 0, 0, 0, []), (38, 3, false, .invokestatic 293, 79, 1, 0, [0]), (41, 1, false, .aload_n 0, 0, 0, 0, []),
  (42, 3, false, .getfield 80, 11, 34, 2, [0]), (45, 1, false, .iload_n 2, 2, 0, 0, []), (46, 1, false, .aaload, 0, 0, 0, []), (47, 3, false, .invokestatic 293, 79, 1, 0, [0]),
  (50, 3, false, .if_icmp .le 7, 57, 0, 0, []), (53, 1, false, .iconst 1, 1, 0, 0, []), (54, 3, false, .goto 4, 58, 0, 0, []), (57, 1, false, .iconst 0, 0, 0, 0, []),
  (58, 1, false, .istore_n 3, 3, 0, 0, []), (59, 1, false, .aload_n 0, 0, 0, 0, []), (60, 3, false, .getfield 80, 11, 34, 2, [0]), (63, 1, false, .iload_n 1, 1, 0, 0, []),
  (64, 1, false, .aaload, 0, 0, 0, []), (65, 3, false, .invokestatic 293, 79, 1, 0, [0]), (68, 1, false, .aload_n 0, 0, 0, 0, []), (69, 3, false, .getfield 80, 11, 34, 2, [0]),
  (72, 1, false, .iload_n 2, 2, 0, 0, []), (73, 1, false, .aaload, 0, 0, 0, []), (74, 3, false, .invokestatic 293, 79, 1, 0, [0]), (77, 1, false, .iadd, 0, 0, 0, []),
  (78, 2, false, .istore 4, 4, 0, 0, []), (80, 1, false, .aload_n 0, 0, 0, 0, []), (81, 1, false, .dup, 0, 0, 0, []), (82, 3, false, .getfield 287, 11, 47, 0, [0]),
  (85, 1, false, .iconst 1, 1, 0, 0, []), (86, 1, false, .iadd, 0, 0, 0, []), (87, 3, false, .putfield 287, 11, 47, 0, [0]), (90, 1, false, .aload_n 0, 0, 0, 0, []),
  (91, 3, false, .getfield 61, 11, 28, 2, [0]), (94, 1, false, .iload_n 1, 1, 0, 0, []), (95, 1, false, .iconst 0, 0, 0, 0, []), (96, 1, false, .bastore, 0, 0, 0, []),
  (97, 1, false, .aload_n 0, 0, 0, 0, []), (98, 3, false, .getfield 20, 11, 10, 2, [0]), (101, 1, false, .iconst 5, 5, 0, 0, []), (102, 1, false, .iaload, 0, 0, 0, []),
  (103, 1, false, .iconst 2, 2, 0, 0, []), (104, 3, false, .if_icmp .ne 41, 145, 0, 0, []), (107, 1, false, .iconst 0, 0, 0, 0, []), (108, 2, false, .istore 5, 5, 0, 0, []),
  (110, 2, true, .iload 5, 5, 0, 0, []), (112, 2, false, .bipush 8, 8, 0, 0, []), (114, 3, false, .if_icmp .ge 30, 144, 0, 0, []), (117, 1, false, .aload_n 0, 0, 0, 0, []),
  (118, 3, false, .getfield 80, 11, 34, 2, [0]), (121, 1, false, .iload_n 2, 2, 0, 0, []), (122, 1, false, .aaload, 0, 0, 0, []), (123, 2, false, .iload 5, 5, 0, 0, []),
  (125, 1, false, .dup2, 0, 0, 0, []), (126, 1, false, .iaload, 0, 0, 0, []), (127, 1, false, .aload_n 0, 0, 0, 0, []), (128, 3, false, .getfield 80, 11, 34, 2, [0]),
  (131, 1, false, .iload_n 1, 1, 0, 0, []), (132, 1, false, .aaload, 0, 0, 0, []), (133, 2, false, .iload 5, 5, 0, 0, []), (135, 1, false, .iaload, 0, 0, 0, []),
  (136, 1, false, .iadd, 0, 0, 0, []), (137, 1, false, .iastore, 0, 0, 0, []), (138, 3, false, .iinc 5 1, 5, 1, 0, []), (141, 3, false, .goto (-31), 110, 0, 0, []),
  (144, 1, false, .return_, 0, 0, 0, []), (145, 1, false, .iload_n 3, 3, 0, 0, []), (146, 3, false, .ifCond .eq 27, 173, 0, 0, []), (149, 1, false, .aload_n 0, 0, 0, 0, []),
  (150, 3, false, .getfield 71, 11, 31, 2, [0]), (153, 1, false, .iload_n 2, 2, 0, 0, []), (154, 1, false, .aload_n 0, 0, 0, 0, []), (155, 3, false, .getfield 71, 11, 31, 2, [0]),
  (158, 1, false, .iload_n 1, 1, 0, 0, []), (159, 1, false, .iaload, 0, 0, 0, []), (160, 1, false, .iastore, 0, 0, 0, []), (161, 1, false, .aload_n 0, 0, 0, 0, []),
  (162, 3, false, .getfield 74, 11, 32, 2, [0]), (165, 1, false, .iload_n 2, 2, 0, 0, []), (166, 1, false, .aload_n 0, 0, 0, 0, []), (167, 3, false, .getfield 74, 11, 32, 2, [0]),
  (170, 1, false, .iload_n 1, 1, 0, 0, []), (171, 1, false, .iaload, 0, 0, 0, []), (172, 1, false, .iastore, 0, 0, 0, []), (173, 1, false, .iconst 0, 0, 0, 0, []),
  (174, 2, false, .istore 5, 5, 0, 0, []), (176, 2, true, .iload 5, 5, 0, 0, []), (178, 2, false, .bipush 8, 8, 0, 0, []), (180, 3, false, .if_icmp .ge 35, 215, 0, 0, []),
  (183, 1, false, .aload_n 0, 0, 0, 0, []), (184, 3, false, .getfield 80, 11, 34, 2, [0]), (187, 1, false, .iload_n 2, 2, 0, 0, []), (188, 1, false, .aaload, 0, 0, 0, []),
  (189, 2, false, .iload 5, 5, 0, 0, []), (191, 2, false, .iload 5, 5, 0, 0, []), (193, 1, false, .aload_n 0, 0, 0, 0, []), (194, 3, false, .getfield 71, 11, 31, 2, [0]),
  (197, 1, false, .iload_n 2, 2, 0, 0, []), (198, 1, false, .iaload, 0, 0, 0, []), (199, 3, false, .if_icmp .ne 8, 207, 0, 0, []), (202, 2, false, .iload 4, 4, 0, 0, []),
  (204, 3, false, .goto 4, 208, 0, 0, []), (207, 1, false, .iconst 0, 0, 0, 0, []), (208, 1, false, .iastore, 0, 0, 0, []), (209, 3, false, .iinc 5 1, 5, 1, 0, []),
  (212, 3, false, .goto (-36), 176, 0, 0, []), (215, 1, false, .return_, 0, 0, 0, [])]
def k_Mo_cell : List El := [(0, 1, false, .aload_n 0, 0, 0, 0, []), (1, 3, false, .getfield 20, 11, 10, 2, [0]), (4, 1, false, .iconst 0, 0, 0, 0, []), (5, 1, false, .iaload, 0, 0, 0, []),
  (6, 1, false, .iload_n 2, 2, 0, 0, []), (7, 1, false, .imul, 0, 0, 0, []), (8, 1, false, .iload_n 1, 1, 0, 0, []), (9, 1, false, .iadd, 0, 0, 0, []),
  (10, 1, false, .ireturn, 0, 0, 0, [])]
def k_Mo_falls : List El := [(0, 1, false, .aload_n 0, 0, 0, 0, []), (1, 3, false, .getfield 80, 11, 34, 2, [0]), (4, 1, false, .iload_n 1, 1, 0, 0, []), (5, 1, false, .aaload, 0, 0, 0, []),
  (6, 3, false, .invokestatic 293, 79, 1, 0, [0]), (9, 1, false, .istore_n 3, 3, 0, 0, []), (10, 1, false, .iload_n 2, 2, 0, 0, []), (11, 2, false, .istore 4, 4, 0, 0, []),
  (13, 1, false, .iload_n 2, 2, 0, 0, []), (14, 3, false, .ifCond .gt 4, 18, 0, 0, []), (17, 1, false, .return_, 0, 0, 0, []), (18, 2, false, .bipush 8, 8, 0, 0, []),
  (20, 2, false, .newarray .int, 12, 0, 0, []), (22, 2, false, .astore 5, 5, 0, 0, []), (24, 1, false, .iconst 0, 0, 0, 0, []), (25, 2, false, .istore 6, 6, 0, 0, []),
  (27, 2, true, .iload 6, 6, 0, 0, []), (29, 2, false, .bipush 8, 8, 0, 0, []), (31, 3, false, .if_icmp .ge 41, 72, 0, 0, []), (34, 2, false, .aload 5, 5, 0, 0, []),
  (36, 2, false, .iload 6, 6, 0, 0, []), (38, 1, false, .iload_n 2, 2, 0, 0, []), (39, 1, false, .i2l, 0, 0, 0, []), (40, 1, false, .aload_n 0, 0, 0, 0, []),
  (41, 3, false, .getfield 80, 11, 34, 2, [0]), (44, 1, false, .iload_n 1, 1, 0, 0, []), (45, 1, false, .aaload, 0, 0, 0, []), (46, 2, false, .iload 6, 6, 0, 0, []),
  (48, 1, false, .iaload, 0, 0, 0, []), (49, 1, false, .i2l, 0, 0, 0, []), (50, 1, false, .lmul, 0, 0, 0, []), (51, 1, false, .iload_n 3, 3, 0, 0, []),
  (52, 1, false, .i2l, 0, 0, 0, []), (53, 1, false, .ldiv, 0, 0, 0, []), (54, 1, false, .l2i, 0, 0, 0, []), (55, 1, false, .iastore, 0, 0, 0, []),
  (56, 2, false, .iload 4, 4, 0, 0, []), (58, 2, false, .aload 5, 5, 0, 0, []), (60, 2, false, .iload 6, 6, 0, 0, []), (62, 1, false, .iaload, 0, 0, 0, []),
  (63, 1, false, .isub, 0, 0, 0, []), (64, 2, false, .istore 4, 4, 0, 0, []), (66, 3, false, .iinc 6 1, 6, 1, 0, []), (69, 3, false, .goto (-42), 27, 0, 0, []),
  (72, 1, false, .iconst 0, 0, 0, 0, []), (73, 2, false, .istore 6, 6, 0, 0, []), (75, 2, true, .iload 4, 4, 0, 0, []), (77, 3, false, .ifCond .le 47, 124, 0, 0, []),
  (80, 2, false, .aload 5, 5, 0, 0, []), (82, 2, false, .iload 6, 6, 0, 0, []), (84, 1, false, .iaload, 0, 0, 0, []), (85, 1, false, .aload_n 0, 0, 0, 0, []),
  (86, 3, false, .getfield 80, 11, 34, 2, [0]), (89, 1, false, .iload_n 1, 1, 0, 0, []), (90, 1, false, .aaload, 0, 0, 0, []), (91, 2, false, .iload 6, 6, 0, 0, []),
  (93, 1, false, .iaload, 0, 0, 0, []), (94, 3, false, .if_icmp .ne 6, 100, 0, 0, []), (97, 3, false, .goto 15, 112, 0, 0, []), (100, 2, false, .aload 5, 5, 0, 0, []),
  (102, 2, false, .iload 6, 6, 0, 0, []), (104, 1, false, .dup2, 0, 0, 0, []), (105, 1, false, .iaload, 0, 0, 0, []), (106, 1, false, .iconst 1, 1, 0, 0, []),
  (107, 1, false, .iadd, 0, 0, 0, []), (108, 1, false, .iastore, 0, 0, 0, []), (109, 3, false, .iinc 4 (-1), 4, 1, 1, []), (112, 2, false, .iload 6, 6, 0, 0, []),
  (114, 1, false, .iconst 1, 1, 0, 0, []), (115, 1, false, .iadd, 0, 0, 0, []), (116, 2, false, .bipush 8, 8, 0, 0, []), (118, 1, false, .irem, 0, 0, 0, []),
  (119, 2, false, .istore 6, 6, 0, 0, []), (121, 3, false, .goto (-46), 75, 0, 0, []), (124, 1, false, .iconst 0, 0, 0, 0, []), (125, 2, false, .istore 6, 6, 0, 0, []),
  (127, 2, true, .iload 6, 6, 0, 0, []), (129, 2, false, .bipush 8, 8, 0, 0, []), (131, 3, false, .if_icmp .ge 58, 189, 0, 0, []), (134, 1, false, .aload_n 0, 0, 0, 0, []),
  (135, 3, false, .getfield 80, 11, 34, 2, [0]), (138, 1, false, .iload_n 1, 1, 0, 0, []), (139, 1, false, .aaload, 0, 0, 0, []), (140, 2, false, .iload 6, 6, 0, 0, []),
  (142, 1, false, .dup2, 0, 0, 0, []), (143, 1, false, .iaload, 0, 0, 0, []), (144, 2, false, .aload 5, 5, 0, 0, []), (146, 2, false, .iload 6, 6, 0, 0, []),
  (148, 1, false, .iaload, 0, 0, 0, []), (149, 1, false, .isub, 0, 0, 0, []), (150, 1, false, .iastore, 0, 0, 0, []), (151, 1, false, .aload_n 0, 0, 0, 0, []),
  (152, 3, false, .getfield 83, 11, 35, 2, [0]), (155, 1, false, .aload_n 0, 0, 0, 0, []), (156, 1, false, .aload_n 0, 0, 0, 0, []), (157, 3, false, .getfield 65, 11, 29, 2, [0]),
  (160, 1, false, .iload_n 1, 1, 0, 0, []), (161, 1, false, .iaload, 0, 0, 0, []), (162, 1, false, .aload_n 0, 0, 0, 0, []), (163, 3, false, .getfield 68, 11, 30, 2, [0]),
  (166, 1, false, .iload_n 1, 1, 0, 0, []), (167, 1, false, .iaload, 0, 0, 0, []), (168, 3, false, .invokevirtual 300, 85, 3, 0, [0, 11]), (171, 1, false, .aaload, 0, 0, 0, []),
  (172, 2, false, .iload 6, 6, 0, 0, []), (174, 1, false, .dup2, 0, 0, 0, []), (175, 1, false, .iaload, 0, 0, 0, []), (176, 2, false, .aload 5, 5, 0, 0, []),
  (178, 2, false, .iload 6, 6, 0, 0, []), (180, 1, false, .iaload, 0, 0, 0, []), (181, 1, false, .iadd, 0, 0, 0, []), (182, 1, false, .iastore, 0, 0, 0, []),
  (183, 3, false, .iinc 6 1, 6, 1, 0, []), (186, 3, false, .goto (-59), 127, 0, 0, []), (189, 1, false, .return_, 0, 0, 0, [])]
def k_Mo_isKept : List El := [(0, 1, false, .iconst 0, 0, 0, 0, []), (1, 1, false, .istore_n 3, 3, 0, 0, []), (2, 1, true, .iload_n 3, 3, 0, 0, []), (3, 1, false, .aload_n 0, 0, 0, 0, []),
  (4, 3, false, .getfield 236, 11, 19, 0, [0]), (7, 3, false, .if_icmp .ge 47, 54, 0, 0, []), (10, 1, false, .aload_n 0, 0, 0, 0, []), (11, 3, false, .getfield 49, 11, 24, 2, [0]),
  (14, 1, false, .iload_n 3, 3, 0, 0, []), (15, 1, false, .aaload, 0, 0, 0, []), (16, 1, false, .iconst 0, 0, 0, 0, []), (17, 1, false, .iaload, 0, 0, 0, []),
  (18, 1, false, .iload_n 2, 2, 0, 0, []), (19, 3, false, .if_icmp .ne 29, 48, 0, 0, []), (22, 1, false, .aload_n 0, 0, 0, 0, []), (23, 3, false, .getfield 49, 11, 24, 2, [0]),
  (26, 1, false, .iload_n 3, 3, 0, 0, []), (27, 1, false, .aaload, 0, 0, 0, []), (28, 1, false, .iconst 1, 1, 0, 0, []), (29, 1, false, .iaload, 0, 0, 0, []),
  (30, 1, false, .iload_n 1, 1, 0, 0, []), (31, 3, false, .if_icmp .ne 17, 48, 0, 0, []), (34, 1, false, .aload_n 0, 0, 0, 0, []), (35, 3, false, .getfield 49, 11, 24, 2, [0]),
  (38, 1, false, .iload_n 3, 3, 0, 0, []), (39, 1, false, .aaload, 0, 0, 0, []), (40, 1, false, .iconst 2, 2, 0, 0, []), (41, 1, false, .iaload, 0, 0, 0, []),
  (42, 1, false, .iconst 2, 2, 0, 0, []), (43, 3, false, .if_icmp .ne 5, 48, 0, 0, []), (46, 1, false, .iconst 1, 1, 0, 0, []), (47, 1, false, .ireturn, 0, 0, 1, []),
  (48, 3, false, .iinc 3 1, 3, 1, 0, []), (51, 3, false, .goto (-49), 2, 0, 0, []), (54, 1, false, .iconst 0, 0, 0, 0, []), (55, 1, false, .ireturn, 0, 0, 1, [])]
def k_Mo_draws : List El := [(0, 1, false, .aload_n 0, 0, 0, 0, []), (1, 1, false, .aload_n 0, 0, 0, 0, []), (2, 3, false, .getfield 272, 11, 49, 0, [0]), (5, 3, false, .ldc_w 303, 1103515245, 0, 0, []),
  (8, 1, false, .imul, 0, 0, 0, []), (9, 3, false, .sipush 12345, 12345, 0, 0, []), (12, 1, false, .iadd, 0, 0, 0, []), (13, 3, false, .putfield 272, 11, 49, 0, [0]),
  (16, 1, false, .aload_n 0, 0, 0, 0, []), (17, 3, false, .getfield 272, 11, 49, 0, [0]), (20, 2, false, .bipush 16, 16, 0, 0, []), (22, 1, false, .ishr, 0, 0, 0, []),
  (23, 2, false, .bipush 7, 7, 0, 0, []), (25, 1, false, .iand, 0, 0, 0, []), (26, 1, false, .iload_n 1, 1, 0, 0, []), (27, 3, false, .if_icmp .ge 7, 34, 0, 0, []),
  (30, 1, false, .iconst 1, 1, 0, 0, []), (31, 3, false, .goto 4, 35, 0, 0, []), (34, 1, false, .iconst 0, 0, 0, 0, []), (35, 1, false, .ireturn, 0, 0, 1, [])]
def k_Mo_rains : List El := [(0, 1, false, .iconst 0, 0, 0, 0, []), (1, 1, false, .istore_n 2, 2, 0, 0, []), (2, 1, true, .iload_n 2, 2, 0, 0, []), (3, 1, false, .aload_n 0, 0, 0, 0, []),
  (4, 3, false, .getfield 20, 11, 10, 2, [0]), (7, 1, false, .iconst 0, 0, 0, 0, []), (8, 1, false, .iaload, 0, 0, 0, []), (9, 1, false, .aload_n 0, 0, 0, 0, []),
  (10, 3, false, .getfield 20, 11, 10, 2, [0]), (13, 1, false, .iconst 1, 1, 0, 0, []), (14, 1, false, .iaload, 0, 0, 0, []), (15, 1, false, .imul, 0, 0, 0, []),
  (16, 3, false, .if_icmp .ge 32, 48, 0, 0, []), (19, 1, false, .iconst 0, 0, 0, 0, []), (20, 1, false, .istore_n 3, 3, 0, 0, []), (21, 1, true, .iload_n 3, 3, 0, 0, []),
  (22, 2, false, .bipush 8, 8, 0, 0, []), (24, 3, false, .if_icmp .ge 18, 42, 0, 0, []), (27, 1, false, .aload_n 0, 0, 0, 0, []), (28, 3, false, .getfield 83, 11, 35, 2, [0]),
  (31, 1, false, .iload_n 2, 2, 0, 0, []), (32, 1, false, .aaload, 0, 0, 0, []), (33, 1, false, .iload_n 3, 3, 0, 0, []), (34, 1, false, .iconst 0, 0, 0, 0, []),
  (35, 1, false, .iastore, 0, 0, 0, []), (36, 3, false, .iinc 3 1, 3, 1, 0, []), (39, 3, false, .goto (-18), 21, 0, 0, []), (42, 3, false, .iinc 2 1, 2, 1, 0, []),
  (45, 3, false, .goto (-43), 2, 0, 0, []), (48, 1, false, .iconst 0, 0, 0, 0, []), (49, 1, false, .istore_n 2, 2, 0, 0, []), (50, 1, true, .iload_n 2, 2, 0, 0, []),
  (51, 1, false, .aload_n 0, 0, 0, 0, []), (52, 3, false, .getfield 20, 11, 10, 2, [0]), (55, 1, false, .iconst 2, 2, 0, 0, []), (56, 1, false, .iaload, 0, 0, 0, []),
  (57, 3, false, .if_icmp .ge 56, 113, 0, 0, []), (60, 1, false, .aload_n 0, 0, 0, 0, []), (61, 3, false, .getfield 77, 11, 33, 2, [0]), (64, 1, false, .iload_n 2, 2, 0, 0, []),
  (65, 1, false, .iconst 0, 0, 0, 0, []), (66, 1, false, .iastore, 0, 0, 0, []), (67, 1, false, .aload_n 0, 0, 0, 0, []), (68, 3, false, .getfield 61, 11, 28, 2, [0]),
  (71, 1, false, .iload_n 2, 2, 0, 0, []), (72, 1, false, .baload, 0, 0, 0, []), (73, 3, false, .ifCond .eq 34, 107, 0, 0, []), (76, 1, false, .aload_n 0, 0, 0, 0, []),
  (77, 1, false, .iload_n 2, 2, 0, 0, []), (78, 1, false, .iload_n 1, 1, 0, 0, []), (79, 3, false, .invokevirtual 304, 87, 3, 0, [0, 11]), (82, 3, false, .ifCond .ne 25, 107, 0, 0, []),
  (85, 1, false, .aload_n 0, 0, 0, 0, []), (86, 1, false, .iload_n 2, 2, 0, 0, []), (87, 1, false, .aload_n 0, 0, 0, 0, []), (88, 3, false, .getfield 80, 11, 34, 2, [0]),
  (91, 1, false, .iload_n 2, 2, 0, 0, []), (92, 1, false, .aaload, 0, 0, 0, []), (93, 3, false, .invokestatic 293, 79, 1, 0, [0]), (96, 1, false, .aload_n 0, 0, 0, 0, []),
  (97, 3, false, .getfield 20, 11, 10, 2, [0]), (100, 2, false, .bipush 7, 7, 0, 0, []), (102, 1, false, .iaload, 0, 0, 0, []), (103, 1, false, .isub, 0, 0, 0, []),
  (104, 3, false, .invokevirtual 307, 86, 3, 1, [0, 11]), (107, 3, false, .iinc 2 1, 2, 1, 0, []), (110, 3, false, .goto (-60), 50, 0, 0, []), (113, 1, false, .iconst 0, 0, 0, 0, []),
  (114, 1, false, .istore_n 2, 2, 0, 0, []), (115, 1, true, .iload_n 2, 2, 0, 0, []), (116, 1, false, .aload_n 0, 0, 0, 0, []), (117, 3, false, .getfield 236, 11, 19, 0, [0]),
  (120, 3, false, .if_icmp .ge 193, 313, 0, 0, []), (123, 1, false, .aload_n 0, 0, 0, 0, []), (124, 3, false, .getfield 49, 11, 24, 2, [0]), (127, 1, false, .iload_n 2, 2, 0, 0, []),
  (128, 1, false, .aaload, 0, 0, 0, []), (129, 1, false, .iconst 1, 1, 0, 0, []), (130, 1, false, .iaload, 0, 0, 0, []), (131, 1, false, .istore_n 3, 3, 0, 0, []),
  (132, 1, false, .iconst 0, 0, 0, 0, []), (133, 2, false, .istore 4, 4, 0, 0, []), (135, 1, false, .aload_n 0, 0, 0, 0, []), (136, 3, false, .getfield 49, 11, 24, 2, [0]),
  (139, 1, false, .iload_n 2, 2, 0, 0, []), (140, 1, false, .aaload, 0, 0, 0, []), (141, 1, false, .iconst 0, 0, 0, 0, []), (142, 1, false, .iaload, 0, 0, 0, []),
  (143, 1, false, .iload_n 1, 1, 0, 0, []), (144, 3, false, .if_icmp .ne 163, 307, 0, 0, []), (147, 1, false, .aload_n 0, 0, 0, 0, []), (148, 3, false, .getfield 61, 11, 28, 2, [0]),
  (151, 1, false, .iload_n 3, 3, 0, 0, []), (152, 1, false, .baload, 0, 0, 0, []), (153, 3, false, .ifCond .eq 154, 307, 0, 0, []), (156, 1, false, .aload_n 0, 0, 0, 0, []),
  (157, 3, false, .getfield 49, 11, 24, 2, [0]), (160, 1, false, .iload_n 2, 2, 0, 0, []), (161, 1, false, .aaload, 0, 0, 0, []), (162, 1, false, .iconst 2, 2, 0, 0, []),
  (163, 1, false, .iaload, 0, 0, 0, []), (164, 1, false, .iconst 2, 2, 0, 0, []), (165, 3, false, .if_icmp .ne 6, 171, 0, 0, []), (168, 3, false, .goto 139, 307, 0, 0, []),
  (171, 1, false, .aload_n 0, 0, 0, 0, []), (172, 3, false, .getfield 49, 11, 24, 2, [0]), (175, 1, false, .iload_n 2, 2, 0, 0, []), (176, 1, false, .aaload, 0, 0, 0, []),
  (177, 1, false, .iconst 2, 2, 0, 0, []), (178, 1, false, .iaload, 0, 0, 0, []), (179, 3, false, .ifCond .ne 16, 195, 0, 0, []), (182, 1, false, .aload_n 0, 0, 0, 0, []),
  (183, 3, false, .getfield 49, 11, 24, 2, [0]), (186, 1, false, .iload_n 2, 2, 0, 0, []), (187, 1, false, .aaload, 0, 0, 0, []), (188, 1, false, .iconst 3, 3, 0, 0, []),
  (189, 1, false, .iaload, 0, 0, 0, []), (190, 2, false, .istore 4, 4, 0, 0, []), (192, 3, false, .goto 27, 219, 0, 0, []), (195, 1, false, .aload_n 0, 0, 0, 0, []),
  (196, 1, false, .aload_n 0, 0, 0, 0, []), (197, 3, false, .getfield 49, 11, 24, 2, [0]), (200, 1, false, .iload_n 2, 2, 0, 0, []), (201, 1, false, .aaload, 0, 0, 0, []),
  (202, 1, false, .iconst 3, 3, 0, 0, []), (203, 1, false, .iaload, 0, 0, 0, []), (204, 3, false, .invokevirtual 310, 88, 2, 0, [0, 11]), (207, 3, false, .ifCond .eq 12, 219, 0, 0, []),
  (210, 1, false, .aload_n 0, 0, 0, 0, []), (211, 3, false, .getfield 20, 11, 10, 2, [0]), (214, 2, false, .bipush 6, 6, 0, 0, []), (216, 1, false, .iaload, 0, 0, 0, []),
  (217, 2, false, .istore 4, 4, 0, 0, []), (219, 2, false, .iload 4, 4, 0, 0, []), (221, 1, false, .aload_n 0, 0, 0, 0, []), (222, 3, false, .getfield 20, 11, 10, 2, [0]),
  (225, 2, false, .bipush 6, 6, 0, 0, []), (227, 1, false, .iaload, 0, 0, 0, []), (228, 1, false, .aload_n 0, 0, 0, 0, []), (229, 3, false, .getfield 77, 11, 33, 2, [0]),
  (232, 1, false, .iload_n 3, 3, 0, 0, []), (233, 1, false, .iaload, 0, 0, 0, []), (234, 1, false, .isub, 0, 0, 0, []), (235, 3, false, .if_icmp .le 20, 255, 0, 0, []),
  (238, 1, false, .aload_n 0, 0, 0, 0, []), (239, 3, false, .getfield 20, 11, 10, 2, [0]), (242, 2, false, .bipush 6, 6, 0, 0, []), (244, 1, false, .iaload, 0, 0, 0, []),
  (245, 1, false, .aload_n 0, 0, 0, 0, []), (246, 3, false, .getfield 77, 11, 33, 2, [0]), (249, 1, false, .iload_n 3, 3, 0, 0, []), (250, 1, false, .iaload, 0, 0, 0, []),
  (251, 1, false, .isub, 0, 0, 0, []), (252, 3, false, .goto 5, 257, 0, 0, []), (255, 2, false, .iload 4, 4, 0, 0, []), (257, 2, false, .istore 4, 4, 0, 0, []),
  (259, 2, false, .iload 4, 4, 0, 0, []), (261, 1, false, .aload_n 0, 0, 0, 0, []), (262, 3, false, .getfield 80, 11, 34, 2, [0]), (265, 1, false, .iload_n 3, 3, 0, 0, []),
  (266, 1, false, .aaload, 0, 0, 0, []), (267, 3, false, .invokestatic 293, 79, 1, 0, [0]), (270, 3, false, .if_icmp .le 15, 285, 0, 0, []), (273, 1, false, .aload_n 0, 0, 0, 0, []),
  (274, 3, false, .getfield 80, 11, 34, 2, [0]), (277, 1, false, .iload_n 3, 3, 0, 0, []), (278, 1, false, .aaload, 0, 0, 0, []), (279, 3, false, .invokestatic 293, 79, 1, 0, [0]),
  (282, 3, false, .goto 5, 287, 0, 0, []), (285, 2, false, .iload 4, 4, 0, 0, []), (287, 2, false, .istore 4, 4, 0, 0, []), (289, 1, false, .aload_n 0, 0, 0, 0, []),
  (290, 3, false, .getfield 77, 11, 33, 2, [0]), (293, 1, false, .iload_n 3, 3, 0, 0, []), (294, 1, false, .dup2, 0, 0, 0, []), (295, 1, false, .iaload, 0, 0, 0, []),
  (296, 2, false, .iload 4, 4, 0, 0, []), (298, 1, false, .iadd, 0, 0, 0, []), (299, 1, false, .iastore, 0, 0, 0, []), (300, 1, false, .aload_n 0, 0, 0, 0, []),
  (301, 1, false, .iload_n 3, 3, 0, 0, []), (302, 2, false, .iload 4, 4, 0, 0, []), (304, 3, false, .invokevirtual 307, 86, 3, 1, [0, 11]), (307, 3, false, .iinc 2 1, 2, 1, 0, []),
  (310, 3, false, .goto (-195), 115, 0, 0, []), (313, 1, false, .return_, 0, 0, 0, [])]
def k_Mo_fieldAt : List El := [(0, 1, false, .iconst 0, 0, 0, 0, []), (1, 1, false, .istore_n 3, 3, 0, 0, []), (2, 1, true, .iload_n 3, 3, 0, 0, []), (3, 1, false, .aload_n 0, 0, 0, 0, []),
  (4, 3, false, .getfield 20, 11, 10, 2, [0]), (7, 1, false, .iconst 3, 3, 0, 0, []), (8, 1, false, .iaload, 0, 0, 0, []), (9, 3, false, .if_icmp .ge 35, 44, 0, 0, []),
  (12, 1, false, .aload_n 0, 0, 0, 0, []), (13, 3, false, .getfield 40, 11, 16, 2, [0]), (16, 1, false, .iload_n 3, 3, 0, 0, []), (17, 1, false, .aaload, 0, 0, 0, []),
  (18, 1, false, .iconst 0, 0, 0, 0, []), (19, 1, false, .iaload, 0, 0, 0, []), (20, 1, false, .iload_n 1, 1, 0, 0, []), (21, 3, false, .if_icmp .ne 17, 38, 0, 0, []),
  (24, 1, false, .aload_n 0, 0, 0, 0, []), (25, 3, false, .getfield 40, 11, 16, 2, [0]), (28, 1, false, .iload_n 3, 3, 0, 0, []), (29, 1, false, .aaload, 0, 0, 0, []),
  (30, 1, false, .iconst 1, 1, 0, 0, []), (31, 1, false, .iaload, 0, 0, 0, []), (32, 1, false, .iload_n 2, 2, 0, 0, []), (33, 3, false, .if_icmp .ne 5, 38, 0, 0, []),
  (36, 1, false, .iload_n 3, 3, 0, 0, []), (37, 1, false, .ireturn, 0, 0, 0, []), (38, 3, false, .iinc 3 1, 3, 1, 0, []), (41, 3, false, .goto (-39), 2, 0, 0, []),
  (44, 1, false, .iconst (-1), 1, 0, 1, []), (45, 1, false, .ireturn, 0, 0, 0, [])]
def k_Mo_iceAt : List El := [(0, 1, false, .iconst 0, 0, 0, 0, []), (1, 1, false, .istore_n 3, 3, 0, 0, []), (2, 1, true, .iload_n 3, 3, 0, 0, []), (3, 1, false, .aload_n 0, 0, 0, 0, []),
  (4, 3, false, .getfield 20, 11, 10, 2, [0]), (7, 1, false, .iconst 4, 4, 0, 0, []), (8, 1, false, .iaload, 0, 0, 0, []), (9, 3, false, .if_icmp .ge 35, 44, 0, 0, []),
  (12, 1, false, .aload_n 0, 0, 0, 0, []), (13, 3, false, .getfield 46, 11, 18, 2, [0]), (16, 1, false, .iload_n 3, 3, 0, 0, []), (17, 1, false, .aaload, 0, 0, 0, []),
  (18, 1, false, .iconst 0, 0, 0, 0, []), (19, 1, false, .iaload, 0, 0, 0, []), (20, 1, false, .iload_n 1, 1, 0, 0, []), (21, 3, false, .if_icmp .ne 17, 38, 0, 0, []),
  (24, 1, false, .aload_n 0, 0, 0, 0, []), (25, 3, false, .getfield 46, 11, 18, 2, [0]), (28, 1, false, .iload_n 3, 3, 0, 0, []), (29, 1, false, .aaload, 0, 0, 0, []),
  (30, 1, false, .iconst 1, 1, 0, 0, []), (31, 1, false, .iaload, 0, 0, 0, []), (32, 1, false, .iload_n 2, 2, 0, 0, []), (33, 3, false, .if_icmp .ne 5, 38, 0, 0, []),
  (36, 1, false, .iload_n 3, 3, 0, 0, []), (37, 1, false, .ireturn, 0, 0, 0, []), (38, 3, false, .iinc 3 1, 3, 1, 0, []), (41, 3, false, .goto (-39), 2, 0, 0, []),
  (44, 1, false, .iconst (-1), 1, 0, 1, []), (45, 1, false, .ireturn, 0, 0, 0, [])]
def k_Mo_lands : List El := [(0, 1, false, .aload_n 3, 3, 0, 0, []), (1, 3, false, .invokestatic 293, 79, 1, 0, [0]), (4, 2, false, .istore 6, 6, 0, 0, []), (6, 1, false, .aload_n 0, 0, 0, 0, []),
  (7, 1, false, .iload_n 1, 1, 0, 0, []), (8, 1, false, .iload_n 2, 2, 0, 0, []), (9, 3, false, .invokevirtual 313, 90, 3, 0, [0, 11]), (12, 2, false, .istore 7, 7, 0, 0, []),
  (14, 1, false, .aload_n 0, 0, 0, 0, []), (15, 1, false, .iload_n 1, 1, 0, 0, []), (16, 1, false, .iload_n 2, 2, 0, 0, []), (17, 3, false, .invokevirtual 316, 91, 3, 0, [0, 11]),
  (20, 2, false, .istore 8, 8, 0, 0, []), (22, 2, false, .iload 6, 6, 0, 0, []), (24, 3, false, .ifCond .ne 4, 28, 0, 0, []), (27, 1, false, .return_, 0, 0, 0, []),
  (28, 2, false, .iload 8, 8, 0, 0, []), (30, 1, false, .iconst (-1), 1, 0, 1, []), (31, 3, false, .if_icmp .eq 51, 82, 0, 0, []), (34, 2, false, .iload 4, 4, 0, 0, []),
  (36, 1, false, .aload_n 0, 0, 0, 0, []), (37, 3, false, .getfield 46, 11, 18, 2, [0]), (40, 2, false, .iload 8, 8, 0, 0, []), (42, 1, false, .aaload, 0, 0, 0, []),
  (43, 1, false, .iconst 2, 2, 0, 0, []), (44, 1, false, .iaload, 0, 0, 0, []), (45, 3, false, .if_icmp .ge 37, 82, 0, 0, []), (48, 1, false, .iconst 0, 0, 0, 0, []),
  (49, 2, false, .istore 9, 9, 0, 0, []), (51, 2, true, .iload 9, 9, 0, 0, []), (53, 2, false, .bipush 8, 8, 0, 0, []), (55, 3, false, .if_icmp .ge 26, 81, 0, 0, []),
  (58, 1, false, .aload_n 0, 0, 0, 0, []), (59, 3, false, .getfield 86, 11, 36, 2, [0]), (62, 2, false, .iload 8, 8, 0, 0, []), (64, 1, false, .aaload, 0, 0, 0, []),
  (65, 2, false, .iload 9, 9, 0, 0, []), (67, 1, false, .dup2, 0, 0, 0, []), (68, 1, false, .iaload, 0, 0, 0, []), (69, 1, false, .aload_n 3, 3, 0, 0, []),
  (70, 2, false, .iload 9, 9, 0, 0, []), (72, 1, false, .iaload, 0, 0, 0, []), (73, 1, false, .iadd, 0, 0, 0, []), (74, 1, false, .iastore, 0, 0, 0, []),
  (75, 3, false, .iinc 9 1, 9, 1, 0, []), (78, 3, false, .goto (-27), 51, 0, 0, []), (81, 1, false, .return_, 0, 0, 0, []), (82, 2, false, .iload 7, 7, 0, 0, []),
  (84, 1, false, .iconst (-1), 1, 0, 1, []), (85, 3, false, .if_icmp .ne 15, 100, 0, 0, []), (88, 1, false, .aload_n 0, 0, 0, 0, []), (89, 1, false, .dup, 0, 0, 0, []),
  (90, 3, false, .getfield 284, 11, 46, 0, [0]), (93, 2, false, .iload 6, 6, 0, 0, []), (95, 1, false, .iadd, 0, 0, 0, []), (96, 3, false, .putfield 284, 11, 46, 0, [0]),
  (99, 1, false, .return_, 0, 0, 0, []), (100, 2, false, .iload 5, 5, 0, 0, []), (102, 3, false, .ifCond .eq 94, 196, 0, 0, []), (105, 2, false, .iload 6, 6, 0, 0, []),
  (107, 1, false, .aload_n 0, 0, 0, 0, []), (108, 3, false, .getfield 20, 11, 10, 2, [0]), (111, 2, false, .bipush 8, 8, 0, 0, []), (113, 1, false, .iaload, 0, 0, 0, []),
  (114, 3, false, .if_icmp .le 82, 196, 0, 0, []), (117, 1, false, .aload_n 0, 0, 0, 0, []), (118, 3, false, .getfield 98, 11, 40, 2, [0]), (121, 2, false, .iload 7, 7, 0, 0, []),
  (123, 1, false, .iaload, 0, 0, 0, []), (124, 1, false, .iconst (-1), 1, 0, 1, []), (125, 3, false, .if_icmp .ne 71, 196, 0, 0, []), (128, 1, false, .aload_n 0, 0, 0, 0, []),
  (129, 3, false, .getfield 98, 11, 40, 2, [0]), (132, 2, false, .iload 7, 7, 0, 0, []), (134, 2, false, .iload 4, 4, 0, 0, []), (136, 1, false, .iastore, 0, 0, 0, []),
  (137, 1, false, .aload_n 0, 0, 0, 0, []), (138, 1, false, .dup, 0, 0, 0, []), (139, 3, false, .getfield 290, 11, 48, 0, [0]), (142, 1, false, .iconst 1, 1, 0, 0, []),
  (143, 1, false, .iadd, 0, 0, 0, []), (144, 3, false, .putfield 290, 11, 48, 0, [0]), (147, 1, false, .aload_n 0, 0, 0, 0, []), (148, 3, false, .getfield 89, 11, 37, 2, [0]),
  (151, 1, false, .aload_n 3, 3, 0, 0, []), (152, 3, false, .invokestatic 319, 80, 1, 0, [0]), (155, 1, false, .aaload, 0, 0, 0, []), (156, 1, false, .iconst 2, 2, 0, 0, []),
  (157, 1, false, .dup2, 0, 0, 0, []), (158, 1, false, .iaload, 0, 0, 0, []), (159, 1, false, .aload_n 0, 0, 0, 0, []), (160, 3, false, .getfield 40, 11, 16, 2, [0]),
  (163, 2, false, .iload 7, 7, 0, 0, []), (165, 1, false, .aaload, 0, 0, 0, []), (166, 1, false, .iconst 4, 4, 0, 0, []), (167, 1, false, .iaload, 0, 0, 0, []),
  (168, 1, false, .iadd, 0, 0, 0, []), (169, 1, false, .iastore, 0, 0, 0, []), (170, 1, false, .aload_n 0, 0, 0, 0, []), (171, 3, false, .getfield 104, 11, 42, 2, [0]),
  (174, 1, false, .aload_n 0, 0, 0, 0, []), (175, 3, false, .getfield 40, 11, 16, 2, [0]), (178, 2, false, .iload 7, 7, 0, 0, []), (180, 1, false, .aaload, 0, 0, 0, []),
  (181, 1, false, .iconst 2, 2, 0, 0, []), (182, 1, false, .iaload, 0, 0, 0, []), (183, 1, false, .dup2, 0, 0, 0, []), (184, 1, false, .iaload, 0, 0, 0, []),
  (185, 1, false, .aload_n 0, 0, 0, 0, []), (186, 3, false, .getfield 40, 11, 16, 2, [0]), (189, 2, false, .iload 7, 7, 0, 0, []), (191, 1, false, .aaload, 0, 0, 0, []),
  (192, 1, false, .iconst 4, 4, 0, 0, []), (193, 1, false, .iaload, 0, 0, 0, []), (194, 1, false, .iadd, 0, 0, 0, []), (195, 1, false, .iastore, 0, 0, 0, []),
  (196, 1, false, .iconst 0, 0, 0, 0, []), (197, 2, false, .istore 9, 9, 0, 0, []), (199, 2, true, .iload 9, 9, 0, 0, []), (201, 2, false, .bipush 8, 8, 0, 0, []),
  (203, 3, false, .if_icmp .ge 196, 399, 0, 0, []), (206, 1, false, .aload_n 3, 3, 0, 0, []), (207, 2, false, .iload 9, 9, 0, 0, []), (209, 1, false, .iaload, 0, 0, 0, []),
  (210, 1, false, .aload_n 0, 0, 0, 0, []), (211, 3, false, .getfield 92, 11, 38, 2, [0]), (214, 2, false, .iload 7, 7, 0, 0, []), (216, 1, false, .iaload, 0, 0, 0, []),
  (217, 3, false, .if_icmp .ge 10, 227, 0, 0, []), (220, 1, false, .aload_n 3, 3, 0, 0, []), (221, 2, false, .iload 9, 9, 0, 0, []), (223, 1, false, .iaload, 0, 0, 0, []),
  (224, 3, false, .goto 10, 234, 0, 0, []), (227, 1, false, .aload_n 0, 0, 0, 0, []), (228, 3, false, .getfield 92, 11, 38, 2, [0]), (231, 2, false, .iload 7, 7, 0, 0, []),
  (233, 1, false, .iaload, 0, 0, 0, []), (234, 2, false, .istore 10, 10, 0, 0, []), (236, 1, false, .aload_n 3, 3, 0, 0, []), (237, 2, false, .iload 9, 9, 0, 0, []),
  (239, 1, false, .iaload, 0, 0, 0, []), (240, 2, false, .iload 10, 10, 0, 0, []), (242, 1, false, .isub, 0, 0, 0, []), (243, 2, false, .istore 11, 11, 0, 0, []),
  (245, 1, false, .aload_n 0, 0, 0, 0, []), (246, 3, false, .getfield 92, 11, 38, 2, [0]), (249, 2, false, .iload 7, 7, 0, 0, []), (251, 1, false, .dup2, 0, 0, 0, []),
  (252, 1, false, .iaload, 0, 0, 0, []), (253, 2, false, .iload 10, 10, 0, 0, []), (255, 1, false, .isub, 0, 0, 0, []), (256, 1, false, .iastore, 0, 0, 0, []),
  (257, 1, false, .aload_n 0, 0, 0, 0, []), (258, 1, false, .dup, 0, 0, 0, []), (259, 3, false, .getfield 278, 11, 44, 0, [0]), (262, 2, false, .iload 10, 10, 0, 0, []),
  (264, 1, false, .iadd, 0, 0, 0, []), (265, 3, false, .putfield 278, 11, 44, 0, [0]), (268, 1, false, .aload_n 0, 0, 0, 0, []), (269, 3, false, .getfield 89, 11, 37, 2, [0]),
  (272, 2, false, .iload 9, 9, 0, 0, []), (274, 1, false, .aaload, 0, 0, 0, []), (275, 1, false, .iconst 0, 0, 0, 0, []), (276, 1, false, .dup2, 0, 0, 0, []),
  (277, 1, false, .iaload, 0, 0, 0, []), (278, 2, false, .iload 10, 10, 0, 0, []), (280, 1, false, .aload_n 0, 0, 0, 0, []), (281, 3, false, .getfield 40, 11, 16, 2, [0]),
  (284, 2, false, .iload 7, 7, 0, 0, []), (286, 1, false, .aaload, 0, 0, 0, []), (287, 1, false, .iconst 5, 5, 0, 0, []), (288, 1, false, .iaload, 0, 0, 0, []),
  (289, 1, false, .imul, 0, 0, 0, []), (290, 1, false, .iadd, 0, 0, 0, []), (291, 1, false, .iastore, 0, 0, 0, []), (292, 1, false, .aload_n 0, 0, 0, 0, []),
  (293, 3, false, .getfield 101, 11, 41, 2, [0]), (296, 1, false, .aload_n 0, 0, 0, 0, []), (297, 3, false, .getfield 40, 11, 16, 2, [0]), (300, 2, false, .iload 7, 7, 0, 0, []),
  (302, 1, false, .aaload, 0, 0, 0, []), (303, 1, false, .iconst 2, 2, 0, 0, []), (304, 1, false, .iaload, 0, 0, 0, []), (305, 1, false, .dup2, 0, 0, 0, []),
  (306, 1, false, .iaload, 0, 0, 0, []), (307, 2, false, .iload 10, 10, 0, 0, []), (309, 1, false, .aload_n 0, 0, 0, 0, []), (310, 3, false, .getfield 40, 11, 16, 2, [0]),
  (313, 2, false, .iload 7, 7, 0, 0, []), (315, 1, false, .aaload, 0, 0, 0, []), (316, 1, false, .iconst 5, 5, 0, 0, []), (317, 1, false, .iaload, 0, 0, 0, []),
  (318, 1, false, .imul, 0, 0, 0, []), (319, 1, false, .iadd, 0, 0, 0, []), (320, 1, false, .iastore, 0, 0, 0, []), (321, 1, false, .aload_n 0, 0, 0, 0, []),
  (322, 1, false, .dup, 0, 0, 0, []), (323, 3, false, .getfield 281, 11, 45, 0, [0]), (326, 2, false, .iload 11, 11, 0, 0, []), (328, 1, false, .iadd, 0, 0, 0, []),
  (329, 3, false, .putfield 281, 11, 45, 0, [0]), (332, 1, false, .aload_n 0, 0, 0, 0, []), (333, 3, false, .getfield 95, 11, 39, 2, [0]), (336, 2, false, .iload 7, 7, 0, 0, []),
  (338, 1, false, .dup2, 0, 0, 0, []), (339, 1, false, .iaload, 0, 0, 0, []), (340, 2, false, .iload 11, 11, 0, 0, []), (342, 1, false, .iadd, 0, 0, 0, []),
  (343, 1, false, .iastore, 0, 0, 0, []), (344, 1, false, .aload_n 0, 0, 0, 0, []), (345, 3, false, .getfield 89, 11, 37, 2, [0]), (348, 2, false, .iload 9, 9, 0, 0, []),
  (350, 1, false, .aaload, 0, 0, 0, []), (351, 1, false, .iconst 1, 1, 0, 0, []), (352, 1, false, .dup2, 0, 0, 0, []), (353, 1, false, .iaload, 0, 0, 0, []),
  (354, 2, false, .iload 11, 11, 0, 0, []), (356, 1, false, .aload_n 0, 0, 0, 0, []), (357, 3, false, .getfield 20, 11, 10, 2, [0]), (360, 2, false, .bipush 9, 9, 0, 0, []),
  (362, 1, false, .iaload, 0, 0, 0, []), (363, 1, false, .imul, 0, 0, 0, []), (364, 1, false, .iadd, 0, 0, 0, []), (365, 1, false, .iastore, 0, 0, 0, []),
  (366, 1, false, .aload_n 0, 0, 0, 0, []), (367, 3, false, .getfield 104, 11, 42, 2, [0]), (370, 1, false, .aload_n 0, 0, 0, 0, []), (371, 3, false, .getfield 40, 11, 16, 2, [0]),
  (374, 2, false, .iload 7, 7, 0, 0, []), (376, 1, false, .aaload, 0, 0, 0, []), (377, 1, false, .iconst 2, 2, 0, 0, []), (378, 1, false, .iaload, 0, 0, 0, []),
  (379, 1, false, .dup2, 0, 0, 0, []), (380, 1, false, .iaload, 0, 0, 0, []), (381, 2, false, .iload 11, 11, 0, 0, []), (383, 1, false, .aload_n 0, 0, 0, 0, []),
  (384, 3, false, .getfield 20, 11, 10, 2, [0]), (387, 2, false, .bipush 9, 9, 0, 0, []), (389, 1, false, .iaload, 0, 0, 0, []), (390, 1, false, .imul, 0, 0, 0, []),
  (391, 1, false, .iadd, 0, 0, 0, []), (392, 1, false, .iastore, 0, 0, 0, []), (393, 3, false, .iinc 9 1, 9, 1, 0, []), (396, 3, false, .goto (-197), 199, 0, 0, []),
  (399, 1, false, .return_, 0, 0, 0, [])]
def k_Mo_hourGoes : List El := [(0, 1, false, .aload_n 0, 0, 0, 0, []), (1, 1, false, .iload_n 1, 1, 0, 0, []), (2, 3, false, .invokevirtual 322, 82, 2, 0, [0, 11]), (5, 1, false, .aload_n 0, 0, 0, 0, []),
  (6, 3, false, .invokevirtual 325, 83, 1, 0, [0, 11]), (9, 1, false, .aload_n 0, 0, 0, 0, []), (10, 1, false, .iload_n 1, 1, 0, 0, []), (11, 3, false, .invokevirtual 328, 89, 2, 1, [0, 11]),
  (14, 1, false, .iconst 0, 0, 0, 0, []), (15, 1, false, .istore_n 2, 2, 0, 0, []), (16, 1, true, .iload_n 2, 2, 0, 0, []), (17, 1, false, .aload_n 0, 0, 0, 0, []),
  (18, 3, false, .getfield 20, 11, 10, 2, [0]), (21, 1, false, .iconst 1, 1, 0, 0, []), (22, 1, false, .iaload, 0, 0, 0, []), (23, 3, false, .if_icmp .ge 46, 69, 0, 0, []),
  (26, 1, false, .iconst 0, 0, 0, 0, []), (27, 1, false, .istore_n 3, 3, 0, 0, []), (28, 1, true, .iload_n 3, 3, 0, 0, []), (29, 1, false, .aload_n 0, 0, 0, 0, []),
  (30, 3, false, .getfield 20, 11, 10, 2, [0]), (33, 1, false, .iconst 0, 0, 0, 0, []), (34, 1, false, .iaload, 0, 0, 0, []), (35, 3, false, .if_icmp .ge 28, 63, 0, 0, []),
  (38, 1, false, .aload_n 0, 0, 0, 0, []), (39, 1, false, .iload_n 3, 3, 0, 0, []), (40, 1, false, .iload_n 2, 2, 0, 0, []), (41, 1, false, .aload_n 0, 0, 0, 0, []),
  (42, 3, false, .getfield 83, 11, 35, 2, [0]), (45, 1, false, .aload_n 0, 0, 0, 0, []), (46, 1, false, .iload_n 3, 3, 0, 0, []), (47, 1, false, .iload_n 2, 2, 0, 0, []),
  (48, 3, false, .invokevirtual 300, 85, 3, 0, [0, 11]), (51, 1, false, .aaload, 0, 0, 0, []), (52, 1, false, .iload_n 1, 1, 0, 0, []), (53, 1, false, .iconst 1, 1, 0, 0, []),
  (54, 3, false, .invokevirtual 331, 92, 6, 0, [0, 11]), (57, 3, false, .iinc 3 1, 3, 1, 0, []), (60, 3, false, .goto (-32), 28, 0, 0, []), (63, 3, false, .iinc 2 1, 2, 1, 0, []),
  (66, 3, false, .goto (-50), 16, 0, 0, []), (69, 1, false, .iconst 0, 0, 0, 0, []), (70, 1, false, .istore_n 2, 2, 0, 0, []), (71, 1, true, .iload_n 2, 2, 0, 0, []),
  (72, 1, false, .aload_n 0, 0, 0, 0, []), (73, 3, false, .getfield 20, 11, 10, 2, [0]), (76, 1, false, .iconst 4, 4, 0, 0, []), (77, 1, false, .iaload, 0, 0, 0, []),
  (78, 3, false, .if_icmp .ge 93, 171, 0, 0, []), (81, 1, false, .aload_n 0, 0, 0, 0, []), (82, 3, false, .getfield 46, 11, 18, 2, [0]), (85, 1, false, .iload_n 2, 2, 0, 0, []),
  (86, 1, false, .aaload, 0, 0, 0, []), (87, 1, false, .iconst 2, 2, 0, 0, []), (88, 1, false, .iaload, 0, 0, 0, []), (89, 1, false, .iload_n 1, 1, 0, 0, []),
  (90, 3, false, .if_icmp .eq 6, 96, 0, 0, []), (93, 3, false, .goto 72, 165, 0, 0, []), (96, 2, false, .bipush 8, 8, 0, 0, []), (98, 2, false, .newarray .int, 12, 0, 0, []),
  (100, 1, false, .astore_n 3, 3, 0, 0, []), (101, 1, false, .iconst 0, 0, 0, 0, []), (102, 2, false, .istore 4, 4, 0, 0, []), (104, 2, true, .iload 4, 4, 0, 0, []),
  (106, 2, false, .bipush 8, 8, 0, 0, []), (108, 3, false, .if_icmp .ge 32, 140, 0, 0, []), (111, 1, false, .aload_n 3, 3, 0, 0, []), (112, 2, false, .iload 4, 4, 0, 0, []),
  (114, 1, false, .aload_n 0, 0, 0, 0, []), (115, 3, false, .getfield 86, 11, 36, 2, [0]), (118, 1, false, .iload_n 2, 2, 0, 0, []), (119, 1, false, .aaload, 0, 0, 0, []),
  (120, 2, false, .iload 4, 4, 0, 0, []), (122, 1, false, .iaload, 0, 0, 0, []), (123, 1, false, .iastore, 0, 0, 0, []), (124, 1, false, .aload_n 0, 0, 0, 0, []),
  (125, 3, false, .getfield 86, 11, 36, 2, [0]), (128, 1, false, .iload_n 2, 2, 0, 0, []), (129, 1, false, .aaload, 0, 0, 0, []), (130, 2, false, .iload 4, 4, 0, 0, []),
  (132, 1, false, .iconst 0, 0, 0, 0, []), (133, 1, false, .iastore, 0, 0, 0, []), (134, 3, false, .iinc 4 1, 4, 1, 0, []), (137, 3, false, .goto (-33), 104, 0, 0, []),
  (140, 1, false, .aload_n 0, 0, 0, 0, []), (141, 1, false, .aload_n 0, 0, 0, 0, []), (142, 3, false, .getfield 46, 11, 18, 2, [0]), (145, 1, false, .iload_n 2, 2, 0, 0, []),
  (146, 1, false, .aaload, 0, 0, 0, []), (147, 1, false, .iconst 0, 0, 0, 0, []), (148, 1, false, .iaload, 0, 0, 0, []), (149, 1, false, .aload_n 0, 0, 0, 0, []),
  (150, 3, false, .getfield 46, 11, 18, 2, [0]), (153, 1, false, .iload_n 2, 2, 0, 0, []), (154, 1, false, .aaload, 0, 0, 0, []), (155, 1, false, .iconst 1, 1, 0, 0, []),
  (156, 1, false, .iaload, 0, 0, 0, []), (157, 1, false, .iconst 1, 1, 0, 0, []), (158, 1, false, .iadd, 0, 0, 0, []), (159, 1, false, .aload_n 3, 3, 0, 0, []),
  (160, 1, false, .iload_n 1, 1, 0, 0, []), (161, 1, false, .iconst 0, 0, 0, 0, []), (162, 3, false, .invokevirtual 331, 92, 6, 0, [0, 11]), (165, 3, false, .iinc 2 1, 2, 1, 0, []),
  (168, 3, false, .goto (-97), 71, 0, 0, []), (171, 1, false, .return_, 0, 0, 0, [])]
def k_Mo_goes : List El := [(0, 1, false, .aload_n 0, 0, 0, 0, []), (1, 1, false, .iload_n 1, 1, 0, 0, []), (2, 3, false, .invokevirtual 335, 81, 2, 0, [0, 11]), (5, 1, false, .iconst 0, 0, 0, 0, []),
  (6, 1, false, .istore_n 3, 3, 0, 0, []), (7, 1, true, .iload_n 3, 3, 0, 0, []), (8, 1, false, .iload_n 2, 2, 0, 0, []), (9, 3, false, .if_icmp .gt 14, 23, 0, 0, []),
  (12, 1, false, .aload_n 0, 0, 0, 0, []), (13, 1, false, .iload_n 3, 3, 0, 0, []), (14, 3, false, .invokevirtual 338, 93, 2, 1, [0, 11]), (17, 3, false, .iinc 3 1, 3, 1, 0, []),
  (20, 3, false, .goto (-13), 7, 0, 0, []), (23, 1, false, .return_, 0, 0, 0, [])]
def k_Mo_day : List El := [(0, 1, false, .aload_n 0, 0, 0, 0, []), (1, 1, false, .iconst 0, 0, 0, 0, []), (2, 3, false, .putfield 139, 11, 0, 0, [0]), (5, 1, false, .aload_n 0, 0, 0, 0, []),
  (6, 1, false, .iload_n 2, 2, 0, 0, []), (7, 1, false, .iconst 0, 0, 0, 0, []), (8, 2, false, .bipush 7, 7, 0, 0, []), (10, 3, false, .invokestatic 173, 46, 3, 0, [0]),
  (13, 3, false, .ifCond .ne 7, 20, 0, 0, []), (16, 1, false, .iconst 1, 1, 0, 0, []), (17, 3, false, .goto 4, 21, 0, 0, []), (20, 1, false, .iconst 0, 0, 0, 0, []),
  (21, 1, false, .iconst 1, 1, 0, 0, []), (22, 3, false, .invokevirtual 229, 45, 3, 0, [0, 11]), (25, 3, false, .ifCond .eq 5, 30, 0, 0, []), (28, 1, false, .iconst 0, 0, 0, 0, []),
  (29, 1, false, .ireturn, 0, 0, 0, []), (30, 1, false, .aload_n 0, 0, 0, 0, []), (31, 1, false, .iload_n 1, 1, 0, 0, []), (32, 2, false, .bipush 49, 49, 0, 0, []),
  (34, 3, false, .invokevirtual 341, 94, 3, 1, [0, 11]), (37, 1, false, .iconst 0, 0, 0, 0, []), (38, 1, false, .istore_n 3, 3, 0, 0, []), (39, 1, false, .iconst 0, 0, 0, 0, []),
  (40, 2, false, .istore 4, 4, 0, 0, []), (42, 1, false, .iconst 0, 0, 0, 0, []), (43, 2, false, .istore 5, 5, 0, 0, []), (45, 2, true, .iload 5, 5, 0, 0, []),
  (47, 1, false, .aload_n 0, 0, 0, 0, []), (48, 3, false, .getfield 20, 11, 10, 2, [0]), (51, 1, false, .iconst 2, 2, 0, 0, []), (52, 1, false, .iaload, 0, 0, 0, []),
  (53, 3, false, .if_icmp .ge 36, 89, 0, 0, []), (56, 1, false, .iload_n 3, 3, 0, 0, []), (57, 1, false, .aload_n 0, 0, 0, 0, []), (58, 3, false, .getfield 61, 11, 28, 2, [0]),
  (61, 2, false, .iload 5, 5, 0, 0, []), (63, 1, false, .baload, 0, 0, 0, []), (64, 3, false, .ifCond .eq 16, 80, 0, 0, []), (67, 1, false, .aload_n 0, 0, 0, 0, []),
  (68, 3, false, .getfield 80, 11, 34, 2, [0]), (71, 2, false, .iload 5, 5, 0, 0, []), (73, 1, false, .aaload, 0, 0, 0, []), (74, 3, false, .invokestatic 293, 79, 1, 0, [0]),
  (77, 3, false, .goto 4, 81, 0, 0, []), (80, 1, false, .iconst 0, 0, 0, 0, []), (81, 1, false, .iadd, 0, 0, 0, []), (82, 1, false, .istore_n 3, 3, 0, 0, []),
  (83, 3, false, .iinc 5 1, 5, 1, 0, []), (86, 3, false, .goto (-41), 45, 0, 0, []), (89, 1, false, .iconst 0, 0, 0, 0, []), (90, 2, false, .istore 5, 5, 0, 0, []),
  (92, 2, true, .iload 5, 5, 0, 0, []), (94, 1, false, .aload_n 0, 0, 0, 0, []), (95, 3, false, .getfield 20, 11, 10, 2, [0]), (98, 1, false, .iconst 4, 4, 0, 0, []),
  (99, 1, false, .iaload, 0, 0, 0, []), (100, 3, false, .if_icmp .ge 24, 124, 0, 0, []), (103, 2, false, .iload 4, 4, 0, 0, []), (105, 1, false, .aload_n 0, 0, 0, 0, []),
  (106, 3, false, .getfield 86, 11, 36, 2, [0]), (109, 2, false, .iload 5, 5, 0, 0, []), (111, 1, false, .aaload, 0, 0, 0, []), (112, 3, false, .invokestatic 293, 79, 1, 0, [0]),
  (115, 1, false, .iadd, 0, 0, 0, []), (116, 2, false, .istore 4, 4, 0, 0, []), (118, 3, false, .iinc 5 1, 5, 1, 0, []), (121, 3, false, .goto (-29), 92, 0, 0, []),
  (124, 1, false, .iload_n 2, 2, 0, 0, []), (125, 43, false, .tableswitch 73 0 6 #[43, 45, 50, 55, 60, 65, 68], 198, 0, 0, [168, 170, 175, 180, 185, 190, 193]), (168, 1, false, .iload_n 3, 3, 0, 0, []), (169, 1, false, .ireturn, 0, 0, 0, []),
  (170, 1, false, .aload_n 0, 0, 0, 0, []), (171, 3, false, .getfield 275, 11, 43, 0, [0]), (174, 1, false, .ireturn, 0, 0, 0, []), (175, 1, false, .aload_n 0, 0, 0, 0, []),
  (176, 3, false, .getfield 278, 11, 44, 0, [0]), (179, 1, false, .ireturn, 0, 0, 0, []), (180, 1, false, .aload_n 0, 0, 0, 0, []), (181, 3, false, .getfield 281, 11, 45, 0, [0]),
  (184, 1, false, .ireturn, 0, 0, 0, []), (185, 1, false, .aload_n 0, 0, 0, 0, []), (186, 3, false, .getfield 284, 11, 46, 0, [0]), (189, 1, false, .ireturn, 0, 0, 0, []),
  (190, 2, false, .iload 4, 4, 0, 0, []), (192, 1, false, .ireturn, 0, 0, 0, []), (193, 1, false, .aload_n 0, 0, 0, 0, []), (194, 3, false, .getfield 287, 11, 47, 0, [0]),
  (197, 1, false, .ireturn, 0, 0, 0, []), (198, 1, false, .aload_n 0, 0, 0, 0, []), (199, 3, false, .getfield 290, 11, 48, 0, [0]), (202, 1, false, .ireturn, 0, 0, 0, [])]
def k_Mo_cloud : List El := [(0, 1, false, .aload_n 0, 0, 0, 0, []), (1, 1, false, .iconst 0, 0, 0, 0, []), (2, 3, false, .putfield 139, 11, 0, 0, [0]), (5, 1, false, .aload_n 0, 0, 0, 0, []),
  (6, 1, false, .aload_n 0, 0, 0, 0, []), (7, 1, false, .iload_n 2, 2, 0, 0, []), (8, 3, false, .invokevirtual 248, 67, 2, 0, [0, 11]), (11, 3, false, .ifCond .ne 7, 18, 0, 0, []),
  (14, 1, false, .iconst 1, 1, 0, 0, []), (15, 3, false, .goto 4, 19, 0, 0, []), (18, 1, false, .iconst 0, 0, 0, 0, []), (19, 1, false, .iconst 1, 1, 0, 0, []),
  (20, 3, false, .invokevirtual 229, 45, 3, 0, [0, 11]), (23, 3, false, .ifCond .ne 33, 56, 0, 0, []), (26, 1, false, .aload_n 0, 0, 0, 0, []), (27, 1, false, .iload_n 3, 3, 0, 0, []),
  (28, 3, false, .invokestatic 262, 69, 1, 0, [0]), (31, 3, false, .ifCond .eq 13, 44, 0, 0, []), (34, 2, false, .iload 4, 4, 0, 0, []), (36, 1, false, .iconst 0, 0, 0, 0, []),
  (37, 1, false, .iconst 2, 2, 0, 0, []), (38, 3, false, .invokestatic 173, 46, 3, 0, [0]), (41, 3, false, .ifCond .ne 7, 48, 0, 0, []), (44, 1, false, .iconst 1, 1, 0, 0, []),
  (45, 3, false, .goto 4, 49, 0, 0, []), (48, 1, false, .iconst 0, 0, 0, 0, []), (49, 1, false, .iconst 2, 2, 0, 0, []), (50, 3, false, .invokevirtual 229, 45, 3, 0, [0, 11]),
  (53, 3, false, .ifCond .eq 5, 58, 0, 0, []), (56, 1, false, .iconst 0, 0, 0, 0, []), (57, 1, false, .ireturn, 0, 0, 0, []), (58, 1, false, .aload_n 0, 0, 0, 0, []),
  (59, 1, false, .iload_n 1, 1, 0, 0, []), (60, 1, false, .iload_n 3, 3, 0, 0, []), (61, 3, false, .invokevirtual 341, 94, 3, 1, [0, 11]), (64, 1, false, .aload_n 0, 0, 0, 0, []),
  (65, 3, false, .getfield 61, 11, 28, 2, [0]), (68, 1, false, .iload_n 2, 2, 0, 0, []), (69, 1, false, .baload, 0, 0, 0, []), (70, 3, false, .ifCond .ne 5, 75, 0, 0, []),
  (73, 1, false, .iconst (-1), 1, 0, 1, []), (74, 1, false, .ireturn, 0, 0, 0, []), (75, 2, false, .iload 4, 4, 0, 0, []), (77, 3, false, .ifCond .ne 15, 92, 0, 0, []),
  (80, 1, false, .aload_n 0, 0, 0, 0, []), (81, 3, false, .getfield 80, 11, 34, 2, [0]), (84, 1, false, .iload_n 2, 2, 0, 0, []), (85, 1, false, .aaload, 0, 0, 0, []),
  (86, 3, false, .invokestatic 293, 79, 1, 0, [0]), (89, 3, false, .goto 37, 126, 0, 0, []), (92, 2, false, .iload 4, 4, 0, 0, []), (94, 1, false, .iconst 1, 1, 0, 0, []),
  (95, 3, false, .if_icmp .ne 15, 110, 0, 0, []), (98, 1, false, .aload_n 0, 0, 0, 0, []), (99, 3, false, .getfield 80, 11, 34, 2, [0]), (102, 1, false, .iload_n 2, 2, 0, 0, []),
  (103, 1, false, .aaload, 0, 0, 0, []), (104, 3, false, .invokestatic 319, 80, 1, 0, [0]), (107, 3, false, .goto 19, 126, 0, 0, []), (110, 2, false, .bipush 100, 100, 0, 0, []),
  (112, 1, false, .aload_n 0, 0, 0, 0, []), (113, 3, false, .getfield 65, 11, 29, 2, [0]), (116, 1, false, .iload_n 2, 2, 0, 0, []), (117, 1, false, .iaload, 0, 0, 0, []),
  (118, 1, false, .imul, 0, 0, 0, []), (119, 1, false, .aload_n 0, 0, 0, 0, []), (120, 3, false, .getfield 68, 11, 30, 2, [0]), (123, 1, false, .iload_n 2, 2, 0, 0, []),
  (124, 1, false, .iaload, 0, 0, 0, []), (125, 1, false, .iadd, 0, 0, 0, []), (126, 1, false, .ireturn, 0, 0, 0, [])]
def k_Mo_part : List El := [(0, 1, false, .aload_n 0, 0, 0, 0, []), (1, 1, false, .iconst 0, 0, 0, 0, []), (2, 3, false, .putfield 139, 11, 0, 0, [0]), (5, 1, false, .aload_n 0, 0, 0, 0, []),
  (6, 1, false, .aload_n 0, 0, 0, 0, []), (7, 1, false, .iload_n 2, 2, 0, 0, []), (8, 3, false, .invokevirtual 248, 67, 2, 0, [0, 11]), (11, 3, false, .ifCond .ne 7, 18, 0, 0, []),
  (14, 1, false, .iconst 1, 1, 0, 0, []), (15, 3, false, .goto 4, 19, 0, 0, []), (18, 1, false, .iconst 0, 0, 0, 0, []), (19, 1, false, .iconst 1, 1, 0, 0, []),
  (20, 3, false, .invokevirtual 229, 45, 3, 0, [0, 11]), (23, 3, false, .ifCond .ne 34, 57, 0, 0, []), (26, 1, false, .aload_n 0, 0, 0, 0, []), (27, 1, false, .iload_n 3, 3, 0, 0, []),
  (28, 3, false, .invokestatic 262, 69, 1, 0, [0]), (31, 3, false, .ifCond .eq 14, 45, 0, 0, []), (34, 2, false, .iload 4, 4, 0, 0, []), (36, 1, false, .iconst 0, 0, 0, 0, []),
  (37, 2, false, .bipush 7, 7, 0, 0, []), (39, 3, false, .invokestatic 173, 46, 3, 0, [0]), (42, 3, false, .ifCond .ne 7, 49, 0, 0, []), (45, 1, false, .iconst 1, 1, 0, 0, []),
  (46, 3, false, .goto 4, 50, 0, 0, []), (49, 1, false, .iconst 0, 0, 0, 0, []), (50, 1, false, .iconst 2, 2, 0, 0, []), (51, 3, false, .invokevirtual 229, 45, 3, 0, [0, 11]),
  (54, 3, false, .ifCond .eq 5, 59, 0, 0, []), (57, 1, false, .iconst 0, 0, 0, 0, []), (58, 1, false, .ireturn, 0, 0, 0, []), (59, 1, false, .aload_n 0, 0, 0, 0, []),
  (60, 1, false, .iload_n 1, 1, 0, 0, []), (61, 1, false, .iload_n 3, 3, 0, 0, []), (62, 3, false, .invokevirtual 341, 94, 3, 1, [0, 11]), (65, 1, false, .aload_n 0, 0, 0, 0, []),
  (66, 3, false, .getfield 61, 11, 28, 2, [0]), (69, 1, false, .iload_n 2, 2, 0, 0, []), (70, 1, false, .baload, 0, 0, 0, []), (71, 3, false, .ifCond .eq 15, 86, 0, 0, []),
  (74, 1, false, .aload_n 0, 0, 0, 0, []), (75, 3, false, .getfield 80, 11, 34, 2, [0]), (78, 1, false, .iload_n 2, 2, 0, 0, []), (79, 1, false, .aaload, 0, 0, 0, []),
  (80, 2, false, .iload 4, 4, 0, 0, []), (82, 1, false, .iaload, 0, 0, 0, []), (83, 3, false, .goto 4, 87, 0, 0, []), (86, 1, false, .iconst 0, 0, 0, 0, []),
  (87, 1, false, .ireturn, 0, 0, 0, [])]
def k_Mo_account : List El := [(0, 1, false, .aload_n 0, 0, 0, 0, []), (1, 1, false, .iconst 0, 0, 0, 0, []), (2, 3, false, .putfield 139, 11, 0, 0, [0]), (5, 1, false, .aload_n 0, 0, 0, 0, []),
  (6, 1, false, .iload_n 2, 2, 0, 0, []), (7, 1, false, .iconst 0, 0, 0, 0, []), (8, 2, false, .bipush 7, 7, 0, 0, []), (10, 3, false, .invokestatic 173, 46, 3, 0, [0]),
  (13, 3, false, .ifCond .eq 12, 25, 0, 0, []), (16, 1, false, .iload_n 3, 3, 0, 0, []), (17, 1, false, .iconst 0, 0, 0, 0, []), (18, 1, false, .iconst 2, 2, 0, 0, []),
  (19, 3, false, .invokestatic 173, 46, 3, 0, [0]), (22, 3, false, .ifCond .ne 7, 29, 0, 0, []), (25, 1, false, .iconst 1, 1, 0, 0, []), (26, 3, false, .goto 4, 30, 0, 0, []),
  (29, 1, false, .iconst 0, 0, 0, 0, []), (30, 1, false, .iconst 1, 1, 0, 0, []), (31, 3, false, .invokevirtual 229, 45, 3, 0, [0, 11]), (34, 3, false, .ifCond .eq 5, 39, 0, 0, []),
  (37, 1, false, .iconst 0, 0, 0, 0, []), (38, 1, false, .ireturn, 0, 0, 0, []), (39, 1, false, .aload_n 0, 0, 0, 0, []), (40, 1, false, .iload_n 1, 1, 0, 0, []),
  (41, 2, false, .bipush 49, 49, 0, 0, []), (43, 3, false, .invokevirtual 341, 94, 3, 1, [0, 11]), (46, 1, false, .aload_n 0, 0, 0, 0, []), (47, 3, false, .getfield 89, 11, 37, 2, [0]),
  (50, 1, false, .iload_n 2, 2, 0, 0, []), (51, 1, false, .aaload, 0, 0, 0, []), (52, 1, false, .iload_n 3, 3, 0, 0, []), (53, 1, false, .iaload, 0, 0, 0, []),
  (54, 1, false, .ireturn, 0, 0, 0, [])]
def k_Mo_farmer : List El := [(0, 1, false, .aload_n 0, 0, 0, 0, []), (1, 1, false, .iconst 0, 0, 0, 0, []), (2, 3, false, .putfield 139, 11, 0, 0, [0]), (5, 1, false, .aload_n 0, 0, 0, 0, []),
  (6, 1, false, .iload_n 2, 2, 0, 0, []), (7, 1, false, .iconst 0, 0, 0, 0, []), (8, 2, false, .bipush 6, 6, 0, 0, []), (10, 3, false, .invokestatic 173, 46, 3, 0, [0]),
  (13, 3, false, .ifCond .eq 12, 25, 0, 0, []), (16, 1, false, .iload_n 3, 3, 0, 0, []), (17, 1, false, .iconst 0, 0, 0, 0, []), (18, 1, false, .iconst 1, 1, 0, 0, []),
  (19, 3, false, .invokestatic 173, 46, 3, 0, [0]), (22, 3, false, .ifCond .ne 7, 29, 0, 0, []), (25, 1, false, .iconst 1, 1, 0, 0, []), (26, 3, false, .goto 4, 30, 0, 0, []),
  (29, 1, false, .iconst 0, 0, 0, 0, []), (30, 1, false, .iconst 1, 1, 0, 0, []), (31, 3, false, .invokevirtual 229, 45, 3, 0, [0, 11]), (34, 3, false, .ifCond .eq 5, 39, 0, 0, []),
  (37, 1, false, .iconst 0, 0, 0, 0, []), (38, 1, false, .ireturn, 0, 0, 0, []), (39, 1, false, .aload_n 0, 0, 0, 0, []), (40, 1, false, .iload_n 1, 1, 0, 0, []),
  (41, 2, false, .bipush 49, 49, 0, 0, []), (43, 3, false, .invokevirtual 341, 94, 3, 1, [0, 11]), (46, 1, false, .iload_n 3, 3, 0, 0, []), (47, 3, false, .ifCond .ne 12, 59, 0, 0, []),
  (50, 1, false, .aload_n 0, 0, 0, 0, []), (51, 3, false, .getfield 101, 11, 41, 2, [0]), (54, 1, false, .iload_n 2, 2, 0, 0, []), (55, 1, false, .iaload, 0, 0, 0, []),
  (56, 3, false, .goto 9, 65, 0, 0, []), (59, 1, false, .aload_n 0, 0, 0, 0, []), (60, 3, false, .getfield 104, 11, 42, 2, [0]), (63, 1, false, .iload_n 2, 2, 0, 0, []),
  (64, 1, false, .iaload, 0, 0, 0, []), (65, 1, false, .ireturn, 0, 0, 0, [])]
def k_Mo_after : List El := [(0, 1, false, .aload_n 0, 0, 0, 0, []), (1, 1, false, .iconst 0, 0, 0, 0, []), (2, 3, false, .putfield 139, 11, 0, 0, [0]), (5, 1, false, .aload_n 0, 0, 0, 0, []),
  (6, 1, false, .aload_n 0, 0, 0, 0, []), (7, 1, false, .iload_n 2, 2, 0, 0, []), (8, 3, false, .invokevirtual 269, 75, 2, 0, [0, 11]), (11, 3, false, .ifCond .ne 7, 18, 0, 0, []),
  (14, 1, false, .iconst 1, 1, 0, 0, []), (15, 3, false, .goto 4, 19, 0, 0, []), (18, 1, false, .iconst 0, 0, 0, 0, []), (19, 1, false, .iconst 1, 1, 0, 0, []),
  (20, 3, false, .invokevirtual 229, 45, 3, 0, [0, 11]), (23, 3, false, .ifCond .ne 25, 48, 0, 0, []), (26, 1, false, .aload_n 0, 0, 0, 0, []), (27, 1, false, .iload_n 3, 3, 0, 0, []),
  (28, 1, false, .iconst 0, 0, 0, 0, []), (29, 1, false, .iconst 2, 2, 0, 0, []), (30, 3, false, .invokestatic 173, 46, 3, 0, [0]), (33, 3, false, .ifCond .ne 7, 40, 0, 0, []),
  (36, 1, false, .iconst 1, 1, 0, 0, []), (37, 3, false, .goto 4, 41, 0, 0, []), (40, 1, false, .iconst 0, 0, 0, 0, []), (41, 1, false, .iconst 2, 2, 0, 0, []),
  (42, 3, false, .invokevirtual 229, 45, 3, 0, [0, 11]), (45, 3, false, .ifCond .eq 5, 50, 0, 0, []), (48, 1, false, .iconst 0, 0, 0, 0, []), (49, 1, false, .ireturn, 0, 0, 0, []),
  (50, 1, false, .aload_n 0, 0, 0, 0, []), (51, 1, false, .iload_n 1, 1, 0, 0, []), (52, 2, false, .bipush 49, 49, 0, 0, []), (54, 3, false, .invokevirtual 341, 94, 3, 1, [0, 11]),
  (57, 1, false, .iload_n 3, 3, 0, 0, []), (58, 3, false, .ifCond .ne 12, 70, 0, 0, []), (61, 1, false, .aload_n 0, 0, 0, 0, []), (62, 3, false, .getfield 92, 11, 38, 2, [0]),
  (65, 1, false, .iload_n 2, 2, 0, 0, []), (66, 1, false, .iaload, 0, 0, 0, []), (67, 3, false, .goto 23, 90, 0, 0, []), (70, 1, false, .iload_n 3, 3, 0, 0, []),
  (71, 1, false, .iconst 1, 1, 0, 0, []), (72, 3, false, .if_icmp .ne 12, 84, 0, 0, []), (75, 1, false, .aload_n 0, 0, 0, 0, []), (76, 3, false, .getfield 95, 11, 39, 2, [0]),
  (79, 1, false, .iload_n 2, 2, 0, 0, []), (80, 1, false, .iaload, 0, 0, 0, []), (81, 3, false, .goto 9, 90, 0, 0, []), (84, 1, false, .aload_n 0, 0, 0, 0, []),
  (85, 3, false, .getfield 98, 11, 40, 2, [0]), (88, 1, false, .iload_n 2, 2, 0, 0, []), (89, 1, false, .iaload, 0, 0, 0, []), (90, 1, false, .ireturn, 0, 0, 0, [])]
def k_Mo_laysCan : List El := [(0, 1, false, .iconst 0, 0, 0, 0, []), (1, 1, false, .istore_n 1, 1, 0, 0, []), (2, 1, true, .iload_n 1, 1, 0, 0, []), (3, 1, false, .aload_n 0, 0, 0, 0, []),
  (4, 3, false, .getfield 20, 11, 10, 2, [0]), (7, 1, false, .iconst 2, 2, 0, 0, []), (8, 1, false, .iaload, 0, 0, 0, []), (9, 3, false, .if_icmp .ge 111, 120, 0, 0, []),
  (12, 1, false, .aload_n 0, 0, 0, 0, []), (13, 1, false, .iload_n 1, 1, 0, 0, []), (14, 3, false, .invokevirtual 265, 73, 2, 0, [0, 11]), (17, 1, false, .iconst 0, 0, 0, 0, []),
  (18, 1, false, .istore_n 2, 2, 0, 0, []), (19, 1, true, .iload_n 2, 2, 0, 0, []), (20, 1, false, .aload_n 0, 0, 0, 0, []), (21, 3, false, .getfield 20, 11, 10, 2, [0]),
  (24, 1, false, .iconst 3, 3, 0, 0, []), (25, 1, false, .iaload, 0, 0, 0, []), (26, 3, false, .if_icmp .ge 88, 114, 0, 0, []), (29, 1, false, .aload_n 0, 0, 0, 0, []),
  (30, 3, false, .getfield 113, 11, 52, 2, [0]), (33, 1, false, .iload_n 1, 1, 0, 0, []), (34, 1, false, .aaload, 0, 0, 0, []), (35, 1, false, .iload_n 2, 2, 0, 0, []),
  (36, 1, false, .iconst 0, 0, 0, 0, []), (37, 1, false, .iastore, 0, 0, 0, []), (38, 1, false, .iconst 0, 0, 0, 0, []), (39, 1, false, .istore_n 3, 3, 0, 0, []),
  (40, 1, true, .iload_n 3, 3, 0, 0, []), (41, 2, false, .bipush 50, 50, 0, 0, []), (43, 3, false, .if_icmp .ge 65, 108, 0, 0, []), (46, 1, false, .aload_n 0, 0, 0, 0, []),
  (47, 3, false, .getfield 113, 11, 52, 2, [0]), (50, 1, false, .iload_n 1, 1, 0, 0, []), (51, 1, false, .aaload, 0, 0, 0, []), (52, 1, false, .iload_n 2, 2, 0, 0, []),
  (53, 1, false, .dup2, 0, 0, 0, []), (54, 1, false, .iaload, 0, 0, 0, []), (55, 1, false, .aload_n 0, 0, 0, 0, []), (56, 3, false, .getfield 107, 11, 50, 2, [0]),
  (59, 1, false, .iload_n 3, 3, 0, 0, []), (60, 1, false, .iaload, 0, 0, 0, []), (61, 1, false, .aload_n 0, 0, 0, 0, []), (62, 3, false, .getfield 40, 11, 16, 2, [0]),
  (65, 1, false, .iload_n 2, 2, 0, 0, []), (66, 1, false, .aaload, 0, 0, 0, []), (67, 1, false, .iconst 0, 0, 0, 0, []), (68, 1, false, .iaload, 0, 0, 0, []),
  (69, 3, false, .if_icmp .ne 30, 99, 0, 0, []), (72, 1, false, .aload_n 0, 0, 0, 0, []), (73, 3, false, .getfield 110, 11, 51, 2, [0]), (76, 1, false, .iload_n 3, 3, 0, 0, []),
  (77, 1, false, .iaload, 0, 0, 0, []), (78, 1, false, .aload_n 0, 0, 0, 0, []), (79, 3, false, .getfield 40, 11, 16, 2, [0]), (82, 1, false, .iload_n 2, 2, 0, 0, []),
  (83, 1, false, .aaload, 0, 0, 0, []), (84, 1, false, .iconst 1, 1, 0, 0, []), (85, 1, false, .iaload, 0, 0, 0, []), (86, 3, false, .if_icmp .ne 13, 99, 0, 0, []),
  (89, 1, false, .aload_n 0, 0, 0, 0, []), (90, 3, false, .getfield 20, 11, 10, 2, [0]), (93, 2, false, .bipush 6, 6, 0, 0, []), (95, 1, false, .iaload, 0, 0, 0, []),
  (96, 3, false, .goto 4, 100, 0, 0, []), (99, 1, false, .iconst 0, 0, 0, 0, []), (100, 1, false, .iadd, 0, 0, 0, []), (101, 1, false, .iastore, 0, 0, 0, []),
  (102, 3, false, .iinc 3 1, 3, 1, 0, []), (105, 3, false, .goto (-65), 40, 0, 0, []), (108, 3, false, .iinc 2 1, 2, 1, 0, []), (111, 3, false, .goto (-92), 19, 0, 0, []),
  (114, 3, false, .iinc 1 1, 1, 1, 0, []), (117, 3, false, .goto (-115), 2, 0, 0, []), (120, 1, false, .return_, 0, 0, 0, [])]
def k_Mo_gives : List El := [(0, 1, false, .aload_n 0, 0, 0, 0, []), (1, 3, false, .getfield 122, 11, 55, 2, [0]), (4, 1, false, .iload_n 1, 1, 0, 0, []), (5, 1, false, .baload, 0, 0, 0, []),
  (6, 3, false, .ifCond .eq 5, 11, 0, 0, []), (9, 1, false, .iconst 0, 0, 0, 0, []), (10, 1, false, .ireturn, 0, 0, 1, []), (11, 1, false, .aload_n 0, 0, 0, 0, []),
  (12, 3, false, .getfield 122, 11, 55, 2, [0]), (15, 1, false, .iload_n 1, 1, 0, 0, []), (16, 1, false, .iconst 1, 1, 0, 0, []), (17, 1, false, .bastore, 0, 0, 0, []),
  (18, 1, false, .iconst 0, 0, 0, 0, []), (19, 1, false, .istore_n 3, 3, 0, 0, []), (20, 1, true, .iload_n 3, 3, 0, 0, []), (21, 1, false, .aload_n 0, 0, 0, 0, []),
  (22, 3, false, .getfield 20, 11, 10, 2, [0]), (25, 1, false, .iconst 2, 2, 0, 0, []), (26, 1, false, .iaload, 0, 0, 0, []), (27, 3, false, .if_icmp .ge 150, 177, 0, 0, []),
  (30, 1, false, .iload_n 2, 2, 0, 0, []), (31, 1, false, .iload_n 3, 3, 0, 0, []), (32, 1, false, .ishr, 0, 0, 0, []), (33, 1, false, .iconst 1, 1, 0, 0, []),
  (34, 1, false, .iand, 0, 0, 0, []), (35, 3, false, .ifCond .eq 136, 171, 0, 0, []), (38, 1, false, .aload_n 0, 0, 0, 0, []), (39, 3, false, .getfield 116, 11, 53, 2, [0]),
  (42, 1, false, .iload_n 3, 3, 0, 0, []), (43, 1, false, .aaload, 0, 0, 0, []), (44, 1, false, .iload_n 1, 1, 0, 0, []), (45, 1, false, .iaload, 0, 0, 0, []),
  (46, 1, false, .aload_n 0, 0, 0, 0, []), (47, 3, false, .getfield 113, 11, 52, 2, [0]), (50, 1, false, .iload_n 3, 3, 0, 0, []), (51, 1, false, .aaload, 0, 0, 0, []),
  (52, 1, false, .iload_n 1, 1, 0, 0, []), (53, 1, false, .iaload, 0, 0, 0, []), (54, 3, false, .if_icmp .ne 6, 60, 0, 0, []), (57, 3, false, .goto 114, 171, 0, 0, []),
  (60, 1, false, .aload_n 0, 0, 0, 0, []), (61, 3, false, .getfield 119, 11, 54, 2, [0]), (64, 1, false, .iload_n 3, 3, 0, 0, []), (65, 1, false, .iaload, 0, 0, 0, []),
  (66, 3, false, .ifCond .le 27, 93, 0, 0, []), (69, 1, false, .aload_n 0, 0, 0, 0, []), (70, 3, false, .getfield 119, 11, 54, 2, [0]), (73, 1, false, .iload_n 3, 3, 0, 0, []),
  (74, 1, false, .dup2, 0, 0, 0, []), (75, 1, false, .iaload, 0, 0, 0, []), (76, 1, false, .iconst 1, 1, 0, 0, []), (77, 1, false, .isub, 0, 0, 0, []),
  (78, 1, false, .iastore, 0, 0, 0, []), (79, 1, false, .aload_n 0, 0, 0, 0, []), (80, 3, false, .getfield 116, 11, 53, 2, [0]), (83, 1, false, .iload_n 3, 3, 0, 0, []),
  (84, 1, false, .aaload, 0, 0, 0, []), (85, 1, false, .iload_n 1, 1, 0, 0, []), (86, 1, false, .dup2, 0, 0, 0, []), (87, 1, false, .iaload, 0, 0, 0, []),
  (88, 1, false, .iconst 1, 1, 0, 0, []), (89, 1, false, .iadd, 0, 0, 0, []), (90, 1, false, .iastore, 0, 0, 0, []), (91, 1, false, .iconst 1, 1, 0, 0, []),
  (92, 1, false, .ireturn, 0, 0, 1, []), (93, 1, false, .iconst 0, 0, 0, 0, []), (94, 2, false, .istore 4, 4, 0, 0, []), (96, 2, true, .iload 4, 4, 0, 0, []),
  (98, 1, false, .aload_n 0, 0, 0, 0, []), (99, 3, false, .getfield 20, 11, 10, 2, [0]), (102, 1, false, .iconst 3, 3, 0, 0, []), (103, 1, false, .iaload, 0, 0, 0, []),
  (104, 3, false, .if_icmp .ge 67, 171, 0, 0, []), (107, 1, false, .aload_n 0, 0, 0, 0, []), (108, 3, false, .getfield 116, 11, 53, 2, [0]), (111, 1, false, .iload_n 3, 3, 0, 0, []),
  (112, 1, false, .aaload, 0, 0, 0, []), (113, 2, false, .iload 4, 4, 0, 0, []), (115, 1, false, .iaload, 0, 0, 0, []), (116, 3, false, .ifCond .eq 49, 165, 0, 0, []),
  (119, 2, false, .iload 4, 4, 0, 0, []), (121, 1, false, .iload_n 1, 1, 0, 0, []), (122, 3, false, .if_icmp .eq 43, 165, 0, 0, []), (125, 1, false, .aload_n 0, 0, 0, 0, []),
  (126, 2, false, .iload 4, 4, 0, 0, []), (128, 1, false, .iload_n 2, 2, 0, 0, []), (129, 3, false, .invokevirtual 344, 102, 3, 0, [0, 11]), (132, 3, false, .ifCond .ne 6, 138, 0, 0, []),
  (135, 3, false, .goto 30, 165, 0, 0, []), (138, 1, false, .aload_n 0, 0, 0, 0, []), (139, 3, false, .getfield 116, 11, 53, 2, [0]), (142, 1, false, .iload_n 3, 3, 0, 0, []),
  (143, 1, false, .aaload, 0, 0, 0, []), (144, 2, false, .iload 4, 4, 0, 0, []), (146, 1, false, .dup2, 0, 0, 0, []), (147, 1, false, .iaload, 0, 0, 0, []),
  (148, 1, false, .iconst 1, 1, 0, 0, []), (149, 1, false, .isub, 0, 0, 0, []), (150, 1, false, .iastore, 0, 0, 0, []), (151, 1, false, .aload_n 0, 0, 0, 0, []),
  (152, 3, false, .getfield 116, 11, 53, 2, [0]), (155, 1, false, .iload_n 3, 3, 0, 0, []), (156, 1, false, .aaload, 0, 0, 0, []), (157, 1, false, .iload_n 1, 1, 0, 0, []),
  (158, 1, false, .dup2, 0, 0, 0, []), (159, 1, false, .iaload, 0, 0, 0, []), (160, 1, false, .iconst 1, 1, 0, 0, []), (161, 1, false, .iadd, 0, 0, 0, []),
  (162, 1, false, .iastore, 0, 0, 0, []), (163, 1, false, .iconst 1, 1, 0, 0, []), (164, 1, false, .ireturn, 0, 0, 1, []), (165, 3, false, .iinc 4 1, 4, 1, 0, []),
  (168, 3, false, .goto (-72), 96, 0, 0, []), (171, 3, false, .iinc 3 1, 3, 1, 0, []), (174, 3, false, .goto (-154), 20, 0, 0, []), (177, 1, false, .iconst 0, 0, 0, 0, []),
  (178, 1, false, .ireturn, 0, 0, 1, [])]
def k_Mo_worthOf : List El := [(0, 1, false, .iconst 0, 0, 0, 0, []), (1, 1, false, .istore_n 2, 2, 0, 0, []), (2, 1, false, .iconst 0, 0, 0, 0, []), (3, 1, false, .istore_n 3, 3, 0, 0, []),
  (4, 1, true, .iload_n 3, 3, 0, 0, []), (5, 1, false, .aload_n 0, 0, 0, 0, []), (6, 3, false, .getfield 20, 11, 10, 2, [0]), (9, 1, false, .iconst 2, 2, 0, 0, []),
  (10, 1, false, .iaload, 0, 0, 0, []), (11, 3, false, .if_icmp .ge 53, 64, 0, 0, []), (14, 1, false, .aload_n 0, 0, 0, 0, []), (15, 3, false, .getfield 119, 11, 54, 2, [0]),
  (18, 1, false, .iload_n 3, 3, 0, 0, []), (19, 1, false, .aload_n 0, 0, 0, 0, []), (20, 3, false, .getfield 34, 11, 14, 2, [0]), (23, 1, false, .iload_n 3, 3, 0, 0, []),
  (24, 1, false, .aaload, 0, 0, 0, []), (25, 1, false, .iconst 4, 4, 0, 0, []), (26, 1, false, .iaload, 0, 0, 0, []), (27, 1, false, .iastore, 0, 0, 0, []),
  (28, 1, false, .iconst 0, 0, 0, 0, []), (29, 2, false, .istore 4, 4, 0, 0, []), (31, 2, true, .iload 4, 4, 0, 0, []), (33, 1, false, .aload_n 0, 0, 0, 0, []),
  (34, 3, false, .getfield 20, 11, 10, 2, [0]), (37, 1, false, .iconst 3, 3, 0, 0, []), (38, 1, false, .iaload, 0, 0, 0, []), (39, 3, false, .if_icmp .ge 19, 58, 0, 0, []),
  (42, 1, false, .aload_n 0, 0, 0, 0, []), (43, 3, false, .getfield 116, 11, 53, 2, [0]), (46, 1, false, .iload_n 3, 3, 0, 0, []), (47, 1, false, .aaload, 0, 0, 0, []),
  (48, 2, false, .iload 4, 4, 0, 0, []), (50, 1, false, .iconst 0, 0, 0, 0, []), (51, 1, false, .iastore, 0, 0, 0, []), (52, 3, false, .iinc 4 1, 4, 1, 0, []),
  (55, 3, false, .goto (-24), 31, 0, 0, []), (58, 3, false, .iinc 3 1, 3, 1, 0, []), (61, 3, false, .goto (-57), 4, 0, 0, []), (64, 2, false, .bipush 9, 9, 0, 0, []),
  (66, 1, false, .istore_n 3, 3, 0, 0, []), (67, 1, true, .iload_n 3, 3, 0, 0, []), (68, 3, false, .ifCond .le 127, 195, 0, 0, []), (71, 1, false, .iconst 0, 0, 0, 0, []),
  (72, 2, false, .istore 4, 4, 0, 0, []), (74, 2, true, .iload 4, 4, 0, 0, []), (76, 1, false, .aload_n 0, 0, 0, 0, []), (77, 3, false, .getfield 20, 11, 10, 2, [0]),
  (80, 1, false, .iconst 3, 3, 0, 0, []), (81, 1, false, .iaload, 0, 0, 0, []), (82, 3, false, .if_icmp .ge 107, 189, 0, 0, []), (85, 1, false, .aload_n 0, 0, 0, 0, []),
  (86, 3, false, .getfield 40, 11, 16, 2, [0]), (89, 2, false, .iload 4, 4, 0, 0, []), (91, 1, false, .aaload, 0, 0, 0, []), (92, 1, false, .iconst 5, 5, 0, 0, []),
  (93, 1, false, .iaload, 0, 0, 0, []), (94, 1, false, .iload_n 3, 3, 0, 0, []), (95, 3, false, .if_icmp .ne 7, 102, 0, 0, []), (98, 1, false, .iconst 1, 1, 0, 0, []),
  (99, 3, false, .goto 4, 103, 0, 0, []), (102, 1, false, .iconst 0, 0, 0, 0, []), (103, 2, false, .istore 5, 5, 0, 0, []), (105, 1, false, .iconst 0, 0, 0, 0, []),
  (106, 2, false, .istore 6, 6, 0, 0, []), (108, 2, true, .iload 6, 6, 0, 0, []), (110, 1, false, .aload_n 0, 0, 0, 0, []), (111, 3, false, .getfield 40, 11, 16, 2, [0]),
  (114, 2, false, .iload 4, 4, 0, 0, []), (116, 1, false, .aaload, 0, 0, 0, []), (117, 1, false, .iconst 3, 3, 0, 0, []), (118, 1, false, .iaload, 0, 0, 0, []),
  (119, 3, false, .if_icmp .ge 64, 183, 0, 0, []), (122, 2, false, .iload 5, 5, 0, 0, []), (124, 3, false, .ifCond .eq 59, 183, 0, 0, []), (127, 1, false, .iconst 0, 0, 0, 0, []),
  (128, 2, false, .istore 7, 7, 0, 0, []), (130, 2, true, .iload 7, 7, 0, 0, []), (132, 1, false, .aload_n 0, 0, 0, 0, []), (133, 3, false, .getfield 20, 11, 10, 2, [0]),
  (136, 1, false, .iconst 3, 3, 0, 0, []), (137, 1, false, .iaload, 0, 0, 0, []), (138, 3, false, .if_icmp .ge 17, 155, 0, 0, []), (141, 1, false, .aload_n 0, 0, 0, 0, []),
  (142, 3, false, .getfield 122, 11, 55, 2, [0]), (145, 2, false, .iload 7, 7, 0, 0, []), (147, 1, false, .iconst 0, 0, 0, 0, []), (148, 1, false, .bastore, 0, 0, 0, []),
  (149, 3, false, .iinc 7 1, 7, 1, 0, []), (152, 3, false, .goto (-22), 130, 0, 0, []), (155, 1, false, .aload_n 0, 0, 0, 0, []), (156, 2, false, .iload 4, 4, 0, 0, []),
  (158, 1, false, .iload_n 1, 1, 0, 0, []), (159, 3, false, .invokevirtual 344, 102, 3, 0, [0, 11]), (162, 2, false, .istore 5, 5, 0, 0, []), (164, 1, false, .iload_n 2, 2, 0, 0, []),
  (165, 2, false, .iload 5, 5, 0, 0, []), (167, 3, false, .ifCond .eq 7, 174, 0, 0, []), (170, 1, false, .iload_n 3, 3, 0, 0, []), (171, 3, false, .goto 4, 175, 0, 0, []),
  (174, 1, false, .iconst 0, 0, 0, 0, []), (175, 1, false, .iadd, 0, 0, 0, []), (176, 1, false, .istore_n 2, 2, 0, 0, []), (177, 3, false, .iinc 6 1, 6, 1, 0, []),
  (180, 3, false, .goto (-72), 108, 0, 0, []), (183, 3, false, .iinc 4 1, 4, 1, 0, []), (186, 3, false, .goto (-112), 74, 0, 0, []), (189, 3, false, .iinc 3 (-1), 3, 1, 1, []),
  (192, 3, false, .goto (-125), 67, 0, 0, []), (195, 1, false, .iload_n 2, 2, 0, 0, []), (196, 1, false, .ireturn, 0, 0, 0, [])]
def k_Mo_worth : List El := [(0, 1, false, .aload_n 0, 0, 0, 0, []), (1, 1, false, .iconst 0, 0, 0, 0, []), (2, 3, false, .putfield 139, 11, 0, 0, [0]), (5, 1, false, .aload_n 0, 0, 0, 0, []),
  (6, 1, false, .iload_n 1, 1, 0, 0, []), (7, 1, false, .iconst 0, 0, 0, 0, []), (8, 1, false, .iconst 1, 1, 0, 0, []), (9, 1, false, .aload_n 0, 0, 0, 0, []),
  (10, 3, false, .getfield 20, 11, 10, 2, [0]), (13, 1, false, .iconst 2, 2, 0, 0, []), (14, 1, false, .iaload, 0, 0, 0, []), (15, 1, false, .ishl, 0, 0, 0, []),
  (16, 1, false, .iconst 1, 1, 0, 0, []), (17, 1, false, .isub, 0, 0, 0, []), (18, 3, false, .invokestatic 173, 46, 3, 0, [0]), (21, 3, false, .ifCond .ne 7, 28, 0, 0, []),
  (24, 1, false, .iconst 1, 1, 0, 0, []), (25, 3, false, .goto 4, 29, 0, 0, []), (28, 1, false, .iconst 0, 0, 0, 0, []), (29, 1, false, .iconst 1, 1, 0, 0, []),
  (30, 3, false, .invokevirtual 229, 45, 3, 0, [0, 11]), (33, 3, false, .ifCond .eq 5, 38, 0, 0, []), (36, 1, false, .iconst 0, 0, 0, 0, []), (37, 1, false, .ireturn, 0, 0, 0, []),
  (38, 1, false, .aload_n 0, 0, 0, 0, []), (39, 3, false, .invokevirtual 347, 101, 1, 0, [0, 11]), (42, 1, false, .aload_n 0, 0, 0, 0, []), (43, 1, false, .iload_n 1, 1, 0, 0, []),
  (44, 3, false, .invokevirtual 350, 103, 2, 0, [0, 11]), (47, 1, false, .ireturn, 0, 0, 0, [])]
def k_Mo_factorial : List El := [(0, 1, false, .lconst 1, 1, 0, 0, []), (1, 1, false, .lstore_n 1, 1, 0, 0, []), (2, 1, false, .iconst 2, 2, 0, 0, []), (3, 1, false, .istore_n 3, 3, 0, 0, []),
  (4, 1, true, .iload_n 3, 3, 0, 0, []), (5, 1, false, .iload_n 0, 0, 0, 0, []), (6, 3, false, .if_icmp .gt 14, 20, 0, 0, []), (9, 1, false, .lload_n 1, 1, 0, 0, []),
  (10, 1, false, .iload_n 3, 3, 0, 0, []), (11, 1, false, .i2l, 0, 0, 0, []), (12, 1, false, .lmul, 0, 0, 0, []), (13, 1, false, .lstore_n 1, 1, 0, 0, []),
  (14, 3, false, .iinc 3 1, 3, 1, 0, []), (17, 3, false, .goto (-13), 4, 0, 0, []), (20, 1, false, .lload_n 1, 1, 0, 0, []), (21, 1, false, .lreturn, 0, 0, 0, [])]
def k_Mo_ones : List El := [(0, 1, false, .iconst 0, 0, 0, 0, []), (1, 1, false, .istore_n 1, 1, 0, 0, []), (2, 1, false, .iconst 0, 0, 0, 0, []), (3, 1, false, .istore_n 2, 2, 0, 0, []),
  (4, 1, true, .iload_n 2, 2, 0, 0, []), (5, 2, false, .bipush 8, 8, 0, 0, []), (7, 3, false, .if_icmp .ge 17, 24, 0, 0, []), (10, 1, false, .iload_n 1, 1, 0, 0, []),
  (11, 1, false, .iload_n 0, 0, 0, 0, []), (12, 1, false, .iload_n 2, 2, 0, 0, []), (13, 1, false, .ishr, 0, 0, 0, []), (14, 1, false, .iconst 1, 1, 0, 0, []),
  (15, 1, false, .iand, 0, 0, 0, []), (16, 1, false, .iadd, 0, 0, 0, []), (17, 1, false, .istore_n 1, 1, 0, 0, []), (18, 3, false, .iinc 2 1, 2, 1, 0, []),
  (21, 3, false, .goto (-17), 4, 0, 0, []), (24, 1, false, .iload_n 1, 1, 0, 0, []), (25, 1, false, .ireturn, 0, 0, 0, [])]
def k_Mo_share : List El := [(0, 1, false, .aload_n 0, 0, 0, 0, []), (1, 1, false, .iconst 0, 0, 0, 0, []), (2, 3, false, .putfield 139, 11, 0, 0, [0]), (5, 1, false, .aload_n 0, 0, 0, 0, []),
  (6, 1, false, .aload_n 0, 0, 0, 0, []), (7, 1, false, .iload_n 1, 1, 0, 0, []), (8, 3, false, .invokevirtual 248, 67, 2, 0, [0, 11]), (11, 3, false, .ifCond .ne 7, 18, 0, 0, []),
  (14, 1, false, .iconst 1, 1, 0, 0, []), (15, 3, false, .goto 4, 19, 0, 0, []), (18, 1, false, .iconst 0, 0, 0, 0, []), (19, 1, false, .iconst 1, 1, 0, 0, []),
  (20, 3, false, .invokevirtual 229, 45, 3, 0, [0, 11]), (23, 3, false, .ifCond .ne 25, 48, 0, 0, []), (26, 1, false, .aload_n 0, 0, 0, 0, []), (27, 1, false, .iload_n 2, 2, 0, 0, []),
  (28, 1, false, .iconst 0, 0, 0, 0, []), (29, 1, false, .iconst 1, 1, 0, 0, []), (30, 3, false, .invokestatic 173, 46, 3, 0, [0]), (33, 3, false, .ifCond .ne 7, 40, 0, 0, []),
  (36, 1, false, .iconst 1, 1, 0, 0, []), (37, 3, false, .goto 4, 41, 0, 0, []), (40, 1, false, .iconst 0, 0, 0, 0, []), (41, 1, false, .iconst 2, 2, 0, 0, []),
  (42, 3, false, .invokevirtual 229, 45, 3, 0, [0, 11]), (45, 3, false, .ifCond .eq 5, 50, 0, 0, []), (48, 1, false, .lconst 0, 0, 0, 0, []), (49, 1, false, .lreturn, 0, 0, 0, []),
  (50, 1, false, .aload_n 0, 0, 0, 0, []), (51, 3, false, .getfield 20, 11, 10, 2, [0]), (54, 1, false, .iconst 2, 2, 0, 0, []), (55, 1, false, .iaload, 0, 0, 0, []),
  (56, 1, false, .istore_n 3, 3, 0, 0, []), (57, 1, false, .iload_n 3, 3, 0, 0, []), (58, 2, false, .bipush 6, 6, 0, 0, []), (60, 3, false, .if_icmp .le 7, 67, 0, 0, []),
  (63, 3, false, .ldc2_w 181, 1, 0, 1, []), (66, 1, false, .lreturn, 0, 0, 0, []), (67, 1, false, .aload_n 0, 0, 0, 0, []), (68, 3, false, .invokevirtual 347, 101, 1, 0, [0, 11]),
  (71, 1, false, .lconst 0, 0, 0, 0, []), (72, 2, false, .lstore 4, 4, 0, 0, []), (74, 1, false, .iload_n 3, 3, 0, 0, []), (75, 3, false, .invokestatic 353, 105, 1, 0, [0]),
  (78, 2, false, .lstore 6, 6, 0, 0, []), (80, 1, false, .iconst 0, 0, 0, 0, []), (81, 2, false, .istore 8, 8, 0, 0, []), (83, 2, true, .iload 8, 8, 0, 0, []),
  (85, 1, false, .iconst 1, 1, 0, 0, []), (86, 1, false, .iload_n 3, 3, 0, 0, []), (87, 1, false, .ishl, 0, 0, 0, []), (88, 3, false, .if_icmp .ge 63, 151, 0, 0, []),
  (91, 2, false, .iload 8, 8, 0, 0, []), (93, 1, false, .iload_n 1, 1, 0, 0, []), (94, 1, false, .ishr, 0, 0, 0, []), (95, 1, false, .iconst 1, 1, 0, 0, []),
  (96, 1, false, .iand, 0, 0, 0, []), (97, 3, false, .ifCond .ne 48, 145, 0, 0, []), (100, 2, false, .lload 4, 4, 0, 0, []), (102, 2, false, .iload 8, 8, 0, 0, []),
  (104, 3, false, .invokestatic 357, 106, 1, 0, [0]), (107, 3, false, .invokestatic 353, 105, 1, 0, [0]), (110, 1, false, .iload_n 3, 3, 0, 0, []), (111, 1, false, .iconst 1, 1, 0, 0, []),
  (112, 1, false, .isub, 0, 0, 0, []), (113, 2, false, .iload 8, 8, 0, 0, []), (115, 3, false, .invokestatic 357, 106, 1, 0, [0]), (118, 1, false, .isub, 0, 0, 0, []),
  (119, 3, false, .invokestatic 353, 105, 1, 0, [0]), (122, 1, false, .lmul, 0, 0, 0, []), (123, 1, false, .aload_n 0, 0, 0, 0, []), (124, 2, false, .iload 8, 8, 0, 0, []),
  (126, 1, false, .iconst 1, 1, 0, 0, []), (127, 1, false, .iload_n 1, 1, 0, 0, []), (128, 1, false, .ishl, 0, 0, 0, []), (129, 1, false, .ior, 0, 0, 0, []),
  (130, 3, false, .invokevirtual 350, 103, 2, 0, [0, 11]), (133, 1, false, .aload_n 0, 0, 0, 0, []), (134, 2, false, .iload 8, 8, 0, 0, []), (136, 3, false, .invokevirtual 350, 103, 2, 0, [0, 11]),
  (139, 1, false, .isub, 0, 0, 0, []), (140, 1, false, .i2l, 0, 0, 0, []), (141, 1, false, .lmul, 0, 0, 0, []), (142, 1, false, .ladd, 0, 0, 0, []),
  (143, 2, false, .lstore 4, 4, 0, 0, []), (145, 3, false, .iinc 8 1, 8, 1, 0, []), (148, 3, false, .goto (-65), 83, 0, 0, []), (151, 2, false, .lload 4, 4, 0, 0, []),
  (153, 2, false, .lstore 8, 8, 0, 0, []), (155, 2, false, .lload 6, 6, 0, 0, []), (157, 2, false, .lstore 10, 10, 0, 0, []), (159, 2, true, .lload 10, 10, 0, 0, []),
  (161, 1, false, .lconst 0, 0, 0, 0, []), (162, 1, false, .lcmp, 0, 0, 0, []), (163, 3, false, .ifCond .eq 21, 184, 0, 0, []), (166, 2, false, .lload 8, 8, 0, 0, []),
  (168, 2, false, .lload 10, 10, 0, 0, []), (170, 1, false, .lrem, 0, 0, 0, []), (171, 2, false, .lstore 12, 12, 0, 0, []), (173, 2, false, .lload 10, 10, 0, 0, []),
  (175, 2, false, .lstore 8, 8, 0, 0, []), (177, 2, false, .lload 12, 12, 0, 0, []), (179, 2, false, .lstore 10, 10, 0, 0, []), (181, 3, false, .goto (-22), 159, 0, 0, []),
  (184, 1, false, .iload_n 2, 2, 0, 0, []), (185, 3, false, .ifCond .ne 11, 196, 0, 0, []), (188, 2, false, .lload 4, 4, 0, 0, []), (190, 2, false, .lload 8, 8, 0, 0, []),
  (192, 1, false, .ldiv, 0, 0, 0, []), (193, 3, false, .goto 8, 201, 0, 0, []), (196, 2, false, .lload 6, 6, 0, 0, []), (198, 2, false, .lload 8, 8, 0, 0, []),
  (200, 1, false, .ldiv, 0, 0, 0, []), (201, 1, false, .lreturn, 0, 0, 0, [])]
def k_Mo_bid : List El := [(0, 1, false, .aload_n 0, 0, 0, 0, []), (1, 1, false, .iconst 0, 0, 0, 0, []), (2, 3, false, .putfield 139, 11, 0, 0, [0]), (5, 1, false, .aload_n 0, 0, 0, 0, []),
  (6, 1, false, .iload_n 1, 1, 0, 0, []), (7, 1, false, .iconst 0, 0, 0, 0, []), (8, 2, false, .bipush 6, 6, 0, 0, []), (10, 3, false, .invokestatic 173, 46, 3, 0, [0]),
  (13, 3, false, .ifCond .eq 24, 37, 0, 0, []), (16, 1, false, .iload_n 2, 2, 0, 0, []), (17, 1, false, .iconst 1, 1, 0, 0, []), (18, 3, false, .sipush 999, 999, 0, 0, []),
  (21, 3, false, .invokestatic 173, 46, 3, 0, [0]), (24, 3, false, .ifCond .eq 13, 37, 0, 0, []), (27, 1, false, .iload_n 3, 3, 0, 0, []), (28, 1, false, .iconst 0, 0, 0, 0, []),
  (29, 2, false, .bipush 99, 99, 0, 0, []), (31, 3, false, .invokestatic 173, 46, 3, 0, [0]), (34, 3, false, .ifCond .ne 7, 41, 0, 0, []), (37, 1, false, .iconst 1, 1, 0, 0, []),
  (38, 3, false, .goto 4, 42, 0, 0, []), (41, 1, false, .iconst 0, 0, 0, 0, []), (42, 1, false, .iconst 1, 1, 0, 0, []), (43, 3, false, .invokevirtual 229, 45, 3, 0, [0, 11]),
  (46, 3, false, .ifCond .eq 5, 51, 0, 0, []), (49, 1, false, .iconst 0, 0, 0, 0, []), (50, 1, false, .ireturn, 0, 0, 0, []), (51, 1, false, .aload_n 0, 0, 0, 0, []),
  (52, 3, false, .getfield 239, 11, 20, 0, [0]), (55, 2, false, .bipush 8, 8, 0, 0, []), (57, 3, false, .if_icmp .ne 5, 62, 0, 0, []), (60, 1, false, .iconst (-1), 1, 0, 1, []),
  (61, 1, false, .ireturn, 0, 0, 0, []), (62, 1, false, .aload_n 0, 0, 0, 0, []), (63, 3, false, .getfield 52, 11, 25, 2, [0]), (66, 1, false, .aload_n 0, 0, 0, 0, []),
  (67, 3, false, .getfield 239, 11, 20, 0, [0]), (70, 1, false, .aaload, 0, 0, 0, []), (71, 1, false, .iconst 0, 0, 0, 0, []), (72, 1, false, .iload_n 1, 1, 0, 0, []),
  (73, 1, false, .iastore, 0, 0, 0, []), (74, 1, false, .aload_n 0, 0, 0, 0, []), (75, 3, false, .getfield 52, 11, 25, 2, [0]), (78, 1, false, .aload_n 0, 0, 0, 0, []),
  (79, 3, false, .getfield 239, 11, 20, 0, [0]), (82, 1, false, .aaload, 0, 0, 0, []), (83, 1, false, .iconst 1, 1, 0, 0, []), (84, 1, false, .iload_n 2, 2, 0, 0, []),
  (85, 1, false, .iastore, 0, 0, 0, []), (86, 1, false, .aload_n 0, 0, 0, 0, []), (87, 3, false, .getfield 52, 11, 25, 2, [0]), (90, 1, false, .aload_n 0, 0, 0, 0, []),
  (91, 3, false, .getfield 239, 11, 20, 0, [0]), (94, 1, false, .aaload, 0, 0, 0, []), (95, 1, false, .iconst 2, 2, 0, 0, []), (96, 1, false, .iload_n 3, 3, 0, 0, []),
  (97, 1, false, .iastore, 0, 0, 0, []), (98, 1, false, .aload_n 0, 0, 0, 0, []), (99, 1, false, .dup, 0, 0, 0, []), (100, 3, false, .getfield 239, 11, 20, 0, [0]),
  (103, 1, false, .iconst 1, 1, 0, 0, []), (104, 1, false, .iadd, 0, 0, 0, []), (105, 3, false, .putfield 239, 11, 20, 0, [0]), (108, 1, false, .aload_n 0, 0, 0, 0, []),
  (109, 3, false, .getfield 239, 11, 20, 0, [0]), (112, 1, false, .ireturn, 0, 0, 0, [])]
def k_Mo_forget : List El := [(0, 1, false, .aload_n 0, 0, 0, 0, []), (1, 1, false, .iconst 0, 0, 0, 0, []), (2, 3, false, .putfield 139, 11, 0, 0, [0]), (5, 1, false, .aload_n 0, 0, 0, 0, []),
  (6, 3, false, .getfield 239, 11, 20, 0, [0]), (9, 1, false, .istore_n 1, 1, 0, 0, []), (10, 1, false, .aload_n 0, 0, 0, 0, []), (11, 1, false, .iconst 0, 0, 0, 0, []),
  (12, 3, false, .putfield 239, 11, 20, 0, [0]), (15, 1, false, .iload_n 1, 1, 0, 0, []), (16, 1, false, .ireturn, 0, 0, 0, [])]
def k_Mo_settles : List El := [(0, 1, false, .iload_n 1, 1, 0, 0, []), (1, 1, false, .istore_n 2, 2, 0, 0, []), (2, 1, false, .iconst 0, 0, 0, 0, []), (3, 1, false, .istore_n 3, 3, 0, 0, []),
  (4, 2, false, .bipush 99, 99, 0, 0, []), (6, 2, false, .istore 4, 4, 0, 0, []), (8, 2, true, .iload 4, 4, 0, 0, []), (10, 3, false, .ifCond .lt 115, 125, 0, 0, []),
  (13, 1, false, .iconst 0, 0, 0, 0, []), (14, 2, false, .istore 5, 5, 0, 0, []), (16, 2, true, .iload 5, 5, 0, 0, []), (18, 1, false, .aload_n 0, 0, 0, 0, []),
  (19, 3, false, .getfield 239, 11, 20, 0, [0]), (22, 3, false, .if_icmp .ge 97, 119, 0, 0, []), (25, 1, false, .aload_n 0, 0, 0, 0, []), (26, 3, false, .getfield 52, 11, 25, 2, [0]),
  (29, 2, false, .iload 5, 5, 0, 0, []), (31, 1, false, .aaload, 0, 0, 0, []), (32, 1, false, .iconst 2, 2, 0, 0, []), (33, 1, false, .iaload, 0, 0, 0, []),
  (34, 2, false, .iload 4, 4, 0, 0, []), (36, 3, false, .if_icmp .eq 6, 42, 0, 0, []), (39, 3, false, .goto 74, 113, 0, 0, []), (42, 1, false, .aload_n 0, 0, 0, 0, []),
  (43, 3, false, .getfield 125, 11, 56, 2, [0]), (46, 2, false, .iload 5, 5, 0, 0, []), (48, 1, false, .aload_n 0, 0, 0, 0, []), (49, 3, false, .getfield 52, 11, 25, 2, [0]),
  (52, 2, false, .iload 5, 5, 0, 0, []), (54, 1, false, .aaload, 0, 0, 0, []), (55, 1, false, .iconst 1, 1, 0, 0, []), (56, 1, false, .iaload, 0, 0, 0, []),
  (57, 1, false, .iload_n 2, 2, 0, 0, []), (58, 3, false, .if_icmp .ge 15, 73, 0, 0, []), (61, 1, false, .aload_n 0, 0, 0, 0, []), (62, 3, false, .getfield 52, 11, 25, 2, [0]),
  (65, 2, false, .iload 5, 5, 0, 0, []), (67, 1, false, .aaload, 0, 0, 0, []), (68, 1, false, .iconst 1, 1, 0, 0, []), (69, 1, false, .iaload, 0, 0, 0, []),
  (70, 3, false, .goto 4, 74, 0, 0, []), (73, 1, false, .iload_n 2, 2, 0, 0, []), (74, 1, false, .iastore, 0, 0, 0, []), (75, 1, false, .iload_n 2, 2, 0, 0, []),
  (76, 1, false, .aload_n 0, 0, 0, 0, []), (77, 3, false, .getfield 125, 11, 56, 2, [0]), (80, 2, false, .iload 5, 5, 0, 0, []), (82, 1, false, .iaload, 0, 0, 0, []),
  (83, 1, false, .isub, 0, 0, 0, []), (84, 1, false, .istore_n 2, 2, 0, 0, []), (85, 1, false, .aload_n 0, 0, 0, 0, []), (86, 3, false, .getfield 125, 11, 56, 2, [0]),
  (89, 2, false, .iload 5, 5, 0, 0, []), (91, 1, false, .iaload, 0, 0, 0, []), (92, 1, false, .aload_n 0, 0, 0, 0, []), (93, 3, false, .getfield 52, 11, 25, 2, [0]),
  (96, 2, false, .iload 5, 5, 0, 0, []), (98, 1, false, .aaload, 0, 0, 0, []), (99, 1, false, .iconst 1, 1, 0, 0, []), (100, 1, false, .iaload, 0, 0, 0, []),
  (101, 3, false, .if_icmp .ge 12, 113, 0, 0, []), (104, 2, false, .iload 4, 4, 0, 0, []), (106, 1, false, .iload_n 3, 3, 0, 0, []), (107, 3, false, .if_icmp .le 6, 113, 0, 0, []),
  (110, 2, false, .iload 4, 4, 0, 0, []), (112, 1, false, .istore_n 3, 3, 0, 0, []), (113, 3, false, .iinc 5 1, 5, 1, 0, []), (116, 3, false, .goto (-100), 16, 0, 0, []),
  (119, 3, false, .iinc 4 (-1), 4, 1, 1, []), (122, 3, false, .goto (-114), 8, 0, 0, []), (125, 1, false, .iload_n 3, 3, 0, 0, []), (126, 1, false, .ireturn, 0, 0, 0, [])]
def k_Mo_isWater : List El := [(0, 1, false, .iload_n 0, 0, 0, 0, []), (1, 1, false, .iconst 0, 0, 0, 0, []), (2, 3, false, .sipush 9999, 9999, 0, 0, []), (5, 3, false, .invokestatic 173, 46, 3, 0, [0]),
  (8, 1, false, .ireturn, 0, 0, 1, [])]
def k_Mo_gets : List El := [(0, 1, false, .aload_n 0, 0, 0, 0, []), (1, 1, false, .iconst 0, 0, 0, 0, []), (2, 3, false, .putfield 139, 11, 0, 0, [0]), (5, 1, false, .aload_n 0, 0, 0, 0, []),
  (6, 1, false, .iload_n 2, 2, 0, 0, []), (7, 1, false, .iconst 0, 0, 0, 0, []), (8, 1, false, .aload_n 0, 0, 0, 0, []), (9, 3, false, .getfield 239, 11, 20, 0, [0]),
  (12, 1, false, .iconst 1, 1, 0, 0, []), (13, 1, false, .isub, 0, 0, 0, []), (14, 3, false, .invokestatic 173, 46, 3, 0, [0]), (17, 3, false, .ifCond .ne 7, 24, 0, 0, []),
  (20, 1, false, .iconst 1, 1, 0, 0, []), (21, 3, false, .goto 4, 25, 0, 0, []), (24, 1, false, .iconst 0, 0, 0, 0, []), (25, 1, false, .iconst 1, 1, 0, 0, []),
  (26, 3, false, .invokevirtual 229, 45, 3, 0, [0, 11]), (29, 3, false, .ifCond .ne 23, 52, 0, 0, []), (32, 1, false, .aload_n 0, 0, 0, 0, []), (33, 1, false, .iload_n 1, 1, 0, 0, []),
  (34, 3, false, .invokestatic 360, 111, 1, 0, [0]), (37, 3, false, .ifCond .ne 7, 44, 0, 0, []), (40, 1, false, .iconst 1, 1, 0, 0, []), (41, 3, false, .goto 4, 45, 0, 0, []),
  (44, 1, false, .iconst 0, 0, 0, 0, []), (45, 1, false, .iconst 2, 2, 0, 0, []), (46, 3, false, .invokevirtual 229, 45, 3, 0, [0, 11]), (49, 3, false, .ifCond .eq 5, 54, 0, 0, []),
  (52, 1, false, .iconst 0, 0, 0, 0, []), (53, 1, false, .ireturn, 0, 0, 0, []), (54, 1, false, .aload_n 0, 0, 0, 0, []), (55, 1, false, .iload_n 1, 1, 0, 0, []),
  (56, 3, false, .invokevirtual 363, 110, 2, 0, [0, 11]), (59, 1, false, .pop, 0, 0, 0, []), (60, 1, false, .aload_n 0, 0, 0, 0, []), (61, 3, false, .getfield 125, 11, 56, 2, [0]),
  (64, 1, false, .iload_n 2, 2, 0, 0, []), (65, 1, false, .iaload, 0, 0, 0, []), (66, 1, false, .ireturn, 0, 0, 0, [])]
def k_Mo_settled : List El := [(0, 1, false, .aload_n 0, 0, 0, 0, []), (1, 1, false, .iconst 0, 0, 0, 0, []), (2, 3, false, .putfield 139, 11, 0, 0, [0]), (5, 1, false, .aload_n 0, 0, 0, 0, []),
  (6, 1, false, .iload_n 1, 1, 0, 0, []), (7, 3, false, .invokestatic 360, 111, 1, 0, [0]), (10, 3, false, .ifCond .eq 12, 22, 0, 0, []), (13, 1, false, .iload_n 2, 2, 0, 0, []),
  (14, 1, false, .iconst 0, 0, 0, 0, []), (15, 1, false, .iconst 1, 1, 0, 0, []), (16, 3, false, .invokestatic 173, 46, 3, 0, [0]), (19, 3, false, .ifCond .ne 7, 26, 0, 0, []),
  (22, 1, false, .iconst 1, 1, 0, 0, []), (23, 3, false, .goto 4, 27, 0, 0, []), (26, 1, false, .iconst 0, 0, 0, 0, []), (27, 1, false, .iconst 1, 1, 0, 0, []),
  (28, 3, false, .invokevirtual 229, 45, 3, 0, [0, 11]), (31, 3, false, .ifCond .eq 5, 36, 0, 0, []), (34, 1, false, .iconst 0, 0, 0, 0, []), (35, 1, false, .ireturn, 0, 0, 0, []),
  (36, 1, false, .aload_n 0, 0, 0, 0, []), (37, 1, false, .iload_n 1, 1, 0, 0, []), (38, 3, false, .invokevirtual 363, 110, 2, 0, [0, 11]), (41, 1, false, .istore_n 3, 3, 0, 0, []),
  (42, 1, false, .iconst 0, 0, 0, 0, []), (43, 2, false, .istore 4, 4, 0, 0, []), (45, 1, false, .iconst 0, 0, 0, 0, []), (46, 2, false, .istore 5, 5, 0, 0, []),
  (48, 2, true, .iload 5, 5, 0, 0, []), (50, 1, false, .aload_n 0, 0, 0, 0, []), (51, 3, false, .getfield 239, 11, 20, 0, [0]), (54, 3, false, .if_icmp .ge 21, 75, 0, 0, []),
  (57, 2, false, .iload 4, 4, 0, 0, []), (59, 1, false, .aload_n 0, 0, 0, 0, []), (60, 3, false, .getfield 125, 11, 56, 2, [0]), (63, 2, false, .iload 5, 5, 0, 0, []),
  (65, 1, false, .iaload, 0, 0, 0, []), (66, 1, false, .iadd, 0, 0, 0, []), (67, 2, false, .istore 4, 4, 0, 0, []), (69, 3, false, .iinc 5 1, 5, 1, 0, []),
  (72, 3, false, .goto (-24), 48, 0, 0, []), (75, 1, false, .iload_n 2, 2, 0, 0, []), (76, 3, false, .ifCond .ne 7, 83, 0, 0, []), (79, 1, false, .iload_n 3, 3, 0, 0, []),
  (80, 3, false, .goto 7, 87, 0, 0, []), (83, 1, false, .iload_n 3, 3, 0, 0, []), (84, 2, false, .iload 4, 4, 0, 0, []), (86, 1, false, .imul, 0, 0, 0, []),
  (87, 1, false, .ireturn, 0, 0, 0, [])]
def k_Mo_drought : List El := [(0, 1, false, .aload_n 0, 0, 0, 0, []), (1, 1, false, .iconst 0, 0, 0, 0, []), (2, 3, false, .putfield 139, 11, 0, 0, [0]), (5, 1, false, .aload_n 0, 0, 0, 0, []),
  (6, 1, false, .aload_n 0, 0, 0, 0, []), (7, 1, false, .iload_n 2, 2, 0, 0, []), (8, 3, false, .invokevirtual 269, 75, 2, 0, [0, 11]), (11, 3, false, .ifCond .ne 7, 18, 0, 0, []),
  (14, 1, false, .iconst 1, 1, 0, 0, []), (15, 3, false, .goto 4, 19, 0, 0, []), (18, 1, false, .iconst 0, 0, 0, 0, []), (19, 1, false, .iconst 1, 1, 0, 0, []),
  (20, 3, false, .invokevirtual 229, 45, 3, 0, [0, 11]), (23, 3, false, .ifCond .ne 23, 46, 0, 0, []), (26, 1, false, .aload_n 0, 0, 0, 0, []), (27, 1, false, .iload_n 1, 1, 0, 0, []),
  (28, 3, false, .invokestatic 360, 111, 1, 0, [0]), (31, 3, false, .ifCond .ne 7, 38, 0, 0, []), (34, 1, false, .iconst 1, 1, 0, 0, []), (35, 3, false, .goto 4, 39, 0, 0, []),
  (38, 1, false, .iconst 0, 0, 0, 0, []), (39, 1, false, .iconst 2, 2, 0, 0, []), (40, 3, false, .invokevirtual 229, 45, 3, 0, [0, 11]), (43, 3, false, .ifCond .eq 5, 48, 0, 0, []),
  (46, 1, false, .iconst 0, 0, 0, 0, []), (47, 1, false, .ireturn, 0, 0, 0, []), (48, 2, false, .bipush 12, 12, 0, 0, []), (50, 2, false, .newarray .int, 12, 0, 0, []),
  (52, 1, false, .astore_n 3, 3, 0, 0, []), (53, 1, false, .iconst 0, 0, 0, 0, []), (54, 2, false, .istore 4, 4, 0, 0, []), (56, 2, true, .iload 4, 4, 0, 0, []),
  (58, 1, false, .iload_n 1, 1, 0, 0, []), (59, 3, false, .if_icmp .ge 106, 165, 0, 0, []), (62, 1, false, .iconst (-1), 1, 0, 1, []), (63, 2, false, .istore 5, 5, 0, 0, []),
  (65, 1, false, .iconst 0, 0, 0, 0, []), (66, 2, false, .istore 6, 6, 0, 0, []), (68, 2, true, .iload 6, 6, 0, 0, []), (70, 1, false, .aload_n 0, 0, 0, 0, []),
  (71, 3, false, .getfield 20, 11, 10, 2, [0]), (74, 1, false, .iconst 3, 3, 0, 0, []), (75, 1, false, .iaload, 0, 0, 0, []), (76, 3, false, .if_icmp .ge 66, 142, 0, 0, []),
  (79, 1, false, .aload_n 3, 3, 0, 0, []), (80, 2, false, .iload 6, 6, 0, 0, []), (82, 1, false, .iaload, 0, 0, 0, []), (83, 1, false, .aload_n 0, 0, 0, 0, []),
  (84, 3, false, .getfield 40, 11, 16, 2, [0]), (87, 2, false, .iload 6, 6, 0, 0, []), (89, 1, false, .aaload, 0, 0, 0, []), (90, 1, false, .iconst 3, 3, 0, 0, []),
  (91, 1, false, .iaload, 0, 0, 0, []), (92, 3, false, .if_icmp .ge 44, 136, 0, 0, []), (95, 2, false, .iload 5, 5, 0, 0, []), (97, 1, false, .iconst (-1), 1, 0, 1, []),
  (98, 3, false, .if_icmp .eq 34, 132, 0, 0, []), (101, 1, false, .aload_n 3, 3, 0, 0, []), (102, 2, false, .iload 6, 6, 0, 0, []), (104, 1, false, .iaload, 0, 0, 0, []),
  (105, 1, false, .aload_n 0, 0, 0, 0, []), (106, 3, false, .getfield 40, 11, 16, 2, [0]), (109, 2, false, .iload 5, 5, 0, 0, []), (111, 1, false, .aaload, 0, 0, 0, []),
  (112, 1, false, .iconst 3, 3, 0, 0, []), (113, 1, false, .iaload, 0, 0, 0, []), (114, 1, false, .imul, 0, 0, 0, []), (115, 1, false, .aload_n 3, 3, 0, 0, []),
  (116, 2, false, .iload 5, 5, 0, 0, []), (118, 1, false, .iaload, 0, 0, 0, []), (119, 1, false, .aload_n 0, 0, 0, 0, []), (120, 3, false, .getfield 40, 11, 16, 2, [0]),
  (123, 2, false, .iload 6, 6, 0, 0, []), (125, 1, false, .aaload, 0, 0, 0, []), (126, 1, false, .iconst 3, 3, 0, 0, []), (127, 1, false, .iaload, 0, 0, 0, []),
  (128, 1, false, .imul, 0, 0, 0, []), (129, 3, false, .if_icmp .ge 7, 136, 0, 0, []), (132, 2, false, .iload 6, 6, 0, 0, []), (134, 2, false, .istore 5, 5, 0, 0, []),
  (136, 3, false, .iinc 6 1, 6, 1, 0, []), (139, 3, false, .goto (-71), 68, 0, 0, []), (142, 2, false, .iload 5, 5, 0, 0, []), (144, 1, false, .iconst (-1), 1, 0, 1, []),
  (145, 3, false, .if_icmp .ne 6, 151, 0, 0, []), (148, 3, false, .goto 17, 165, 0, 0, []), (151, 1, false, .aload_n 3, 3, 0, 0, []), (152, 2, false, .iload 5, 5, 0, 0, []),
  (154, 1, false, .dup2, 0, 0, 0, []), (155, 1, false, .iaload, 0, 0, 0, []), (156, 1, false, .iconst 1, 1, 0, 0, []), (157, 1, false, .iadd, 0, 0, 0, []),
  (158, 1, false, .iastore, 0, 0, 0, []), (159, 3, false, .iinc 4 1, 4, 1, 0, []), (162, 3, false, .goto (-106), 56, 0, 0, []), (165, 1, false, .aload_n 3, 3, 0, 0, []),
  (166, 1, false, .iload_n 2, 2, 0, 0, []), (167, 1, false, .iaload, 0, 0, 0, []), (168, 1, false, .ireturn, 0, 0, 0, [])]
def k_Mo_gauge : List El := [(0, 1, false, .aload_n 0, 0, 0, 0, []), (1, 1, false, .iconst 0, 0, 0, 0, []), (2, 3, false, .putfield 139, 11, 0, 0, [0]), (5, 1, false, .aload_n 0, 0, 0, 0, []),
  (6, 1, false, .aload_n 0, 0, 0, 0, []), (7, 1, false, .iload_n 1, 1, 0, 0, []), (8, 1, false, .iload_n 2, 2, 0, 0, []), (9, 3, false, .invokevirtual 258, 72, 3, 0, [0, 11]),
  (12, 3, false, .ifCond .eq 10, 22, 0, 0, []), (15, 1, false, .iload_n 3, 3, 0, 0, []), (16, 3, false, .invokestatic 360, 111, 1, 0, [0]), (19, 3, false, .ifCond .ne 7, 26, 0, 0, []),
  (22, 1, false, .iconst 1, 1, 0, 0, []), (23, 3, false, .goto 4, 27, 0, 0, []), (26, 1, false, .iconst 0, 0, 0, 0, []), (27, 1, false, .iconst 1, 1, 0, 0, []),
  (28, 3, false, .invokevirtual 229, 45, 3, 0, [0, 11]), (31, 3, false, .ifCond .eq 5, 36, 0, 0, []), (34, 1, false, .iconst 0, 0, 0, 0, []), (35, 1, false, .ireturn, 0, 0, 0, []),
  (36, 1, false, .iconst 0, 0, 0, 0, []), (37, 2, false, .istore 4, 4, 0, 0, []), (39, 2, true, .iload 4, 4, 0, 0, []), (41, 1, false, .aload_n 0, 0, 0, 0, []),
  (42, 3, false, .getfield 242, 11, 21, 0, [0]), (45, 3, false, .if_icmp .ge 37, 82, 0, 0, []), (48, 1, false, .aload_n 0, 0, 0, 0, []), (49, 3, false, .getfield 55, 11, 26, 2, [0]),
  (52, 2, false, .iload 4, 4, 0, 0, []), (54, 1, false, .aaload, 0, 0, 0, []), (55, 1, false, .iconst 0, 0, 0, 0, []), (56, 1, false, .iaload, 0, 0, 0, []),
  (57, 1, false, .iload_n 1, 1, 0, 0, []), (58, 3, false, .if_icmp .ne 18, 76, 0, 0, []), (61, 1, false, .aload_n 0, 0, 0, 0, []), (62, 3, false, .getfield 55, 11, 26, 2, [0]),
  (65, 2, false, .iload 4, 4, 0, 0, []), (67, 1, false, .aaload, 0, 0, 0, []), (68, 1, false, .iconst 1, 1, 0, 0, []), (69, 1, false, .iaload, 0, 0, 0, []),
  (70, 1, false, .iload_n 2, 2, 0, 0, []), (71, 3, false, .if_icmp .ne 5, 76, 0, 0, []), (74, 1, false, .iconst (-1), 1, 0, 1, []), (75, 1, false, .ireturn, 0, 0, 0, []),
  (76, 3, false, .iinc 4 1, 4, 1, 0, []), (79, 3, false, .goto (-40), 39, 0, 0, []), (82, 1, false, .aload_n 0, 0, 0, 0, []), (83, 3, false, .getfield 242, 11, 21, 0, [0]),
  (86, 2, false, .bipush 9, 9, 0, 0, []), (88, 3, false, .if_icmp .ne 5, 93, 0, 0, []), (91, 1, false, .iconst (-1), 1, 0, 1, []), (92, 1, false, .ireturn, 0, 0, 0, []),
  (93, 1, false, .aload_n 0, 0, 0, 0, []), (94, 3, false, .getfield 55, 11, 26, 2, [0]), (97, 1, false, .aload_n 0, 0, 0, 0, []), (98, 3, false, .getfield 242, 11, 21, 0, [0]),
  (101, 1, false, .aaload, 0, 0, 0, []), (102, 1, false, .iconst 0, 0, 0, 0, []), (103, 1, false, .iload_n 1, 1, 0, 0, []), (104, 1, false, .iastore, 0, 0, 0, []),
  (105, 1, false, .aload_n 0, 0, 0, 0, []), (106, 3, false, .getfield 55, 11, 26, 2, [0]), (109, 1, false, .aload_n 0, 0, 0, 0, []), (110, 3, false, .getfield 242, 11, 21, 0, [0]),
  (113, 1, false, .aaload, 0, 0, 0, []), (114, 1, false, .iconst 1, 1, 0, 0, []), (115, 1, false, .iload_n 2, 2, 0, 0, []), (116, 1, false, .iastore, 0, 0, 0, []),
  (117, 1, false, .aload_n 0, 0, 0, 0, []), (118, 3, false, .getfield 55, 11, 26, 2, [0]), (121, 1, false, .aload_n 0, 0, 0, 0, []), (122, 3, false, .getfield 242, 11, 21, 0, [0]),
  (125, 1, false, .aaload, 0, 0, 0, []), (126, 1, false, .iconst 2, 2, 0, 0, []), (127, 1, false, .iload_n 3, 3, 0, 0, []), (128, 1, false, .iastore, 0, 0, 0, []),
  (129, 1, false, .aload_n 0, 0, 0, 0, []), (130, 1, false, .dup, 0, 0, 0, []), (131, 3, false, .getfield 242, 11, 21, 0, [0]), (134, 1, false, .iconst 1, 1, 0, 0, []),
  (135, 1, false, .iadd, 0, 0, 0, []), (136, 3, false, .putfield 242, 11, 21, 0, [0]), (139, 1, false, .aload_n 0, 0, 0, 0, []), (140, 3, false, .getfield 242, 11, 21, 0, [0]),
  (143, 1, false, .ireturn, 0, 0, 0, [])]
def k_Mo_away : List El := [(0, 1, false, .aload_n 0, 0, 0, 0, []), (1, 1, false, .iconst 0, 0, 0, 0, []), (2, 3, false, .putfield 139, 11, 0, 0, [0]), (5, 1, false, .aload_n 0, 0, 0, 0, []),
  (6, 3, false, .getfield 242, 11, 21, 0, [0]), (9, 1, false, .istore_n 1, 1, 0, 0, []), (10, 1, false, .aload_n 0, 0, 0, 0, []), (11, 1, false, .iconst 0, 0, 0, 0, []),
  (12, 3, false, .putfield 242, 11, 21, 0, [0]), (15, 1, false, .iload_n 1, 1, 0, 0, []), (16, 1, false, .ireturn, 0, 0, 0, [])]
def k_Mo_explains : List El := [(0, 1, false, .aload_n 0, 0, 0, 0, []), (1, 1, false, .iconst 0, 0, 0, 0, []), (2, 3, false, .putfield 366, 11, 59, 0, [0]), (5, 1, false, .aload_n 0, 0, 0, 0, []),
  (6, 2, false, .bipush 63, 63, 0, 0, []), (8, 3, false, .putfield 369, 11, 60, 0, [0]), (11, 1, false, .iconst 0, 0, 0, 0, []), (12, 1, false, .istore_n 2, 2, 0, 0, []),
  (13, 1, true, .iload_n 2, 2, 0, 0, []), (14, 1, false, .aload_n 0, 0, 0, 0, []), (15, 3, false, .getfield 20, 11, 10, 2, [0]), (18, 1, false, .iconst 2, 2, 0, 0, []),
  (19, 1, false, .iaload, 0, 0, 0, []), (20, 3, false, .if_icmp .ge 126, 146, 0, 0, []), (23, 1, false, .iload_n 2, 2, 0, 0, []), (24, 2, false, .bipush 6, 6, 0, 0, []),
  (26, 3, false, .if_icmp .ge 120, 146, 0, 0, []), (29, 1, false, .aload_n 0, 0, 0, 0, []), (30, 1, false, .iload_n 2, 2, 0, 0, []), (31, 3, false, .invokevirtual 265, 73, 2, 0, [0, 11]),
  (34, 1, false, .iconst 0, 0, 0, 0, []), (35, 1, false, .istore_n 3, 3, 0, 0, []), (36, 1, true, .iload_n 3, 3, 0, 0, []), (37, 1, false, .aload_n 0, 0, 0, 0, []),
  (38, 3, false, .getfield 242, 11, 21, 0, [0]), (41, 3, false, .if_icmp .ge 99, 140, 0, 0, []), (44, 1, false, .aload_n 0, 0, 0, 0, []), (45, 3, false, .getfield 130, 11, 57, 2, [0]),
  (48, 1, false, .iload_n 2, 2, 0, 0, []), (49, 1, false, .aaload, 0, 0, 0, []), (50, 1, false, .iload_n 3, 3, 0, 0, []), (51, 1, false, .iconst 0, 0, 0, 0, []),
  (52, 1, false, .bastore, 0, 0, 0, []), (53, 1, false, .iconst 0, 0, 0, 0, []), (54, 2, false, .istore 4, 4, 0, 0, []), (56, 2, true, .iload 4, 4, 0, 0, []),
  (58, 2, false, .bipush 50, 50, 0, 0, []), (60, 3, false, .if_icmp .ge 74, 134, 0, 0, []), (63, 1, false, .aload_n 0, 0, 0, 0, []), (64, 3, false, .getfield 130, 11, 57, 2, [0]),
  (67, 1, false, .iload_n 2, 2, 0, 0, []), (68, 1, false, .aaload, 0, 0, 0, []), (69, 1, false, .iload_n 3, 3, 0, 0, []), (70, 1, false, .aload_n 0, 0, 0, 0, []),
  (71, 3, false, .getfield 130, 11, 57, 2, [0]), (74, 1, false, .iload_n 2, 2, 0, 0, []), (75, 1, false, .aaload, 0, 0, 0, []), (76, 1, false, .iload_n 3, 3, 0, 0, []),
  (77, 1, false, .baload, 0, 0, 0, []), (78, 3, false, .ifCond .ne 44, 122, 0, 0, []), (81, 1, false, .iload_n 3, 3, 0, 0, []), (82, 1, false, .iload_n 1, 1, 0, 0, []),
  (83, 3, false, .if_icmp .eq 43, 126, 0, 0, []), (86, 1, false, .aload_n 0, 0, 0, 0, []), (87, 3, false, .getfield 107, 11, 50, 2, [0]), (90, 2, false, .iload 4, 4, 0, 0, []),
  (92, 1, false, .iaload, 0, 0, 0, []), (93, 1, false, .aload_n 0, 0, 0, 0, []), (94, 3, false, .getfield 55, 11, 26, 2, [0]), (97, 1, false, .iload_n 3, 3, 0, 0, []),
  (98, 1, false, .aaload, 0, 0, 0, []), (99, 1, false, .iconst 0, 0, 0, 0, []), (100, 1, false, .iaload, 0, 0, 0, []), (101, 3, false, .if_icmp .ne 25, 126, 0, 0, []),
  (104, 1, false, .aload_n 0, 0, 0, 0, []), (105, 3, false, .getfield 110, 11, 51, 2, [0]), (108, 2, false, .iload 4, 4, 0, 0, []), (110, 1, false, .iaload, 0, 0, 0, []),
  (111, 1, false, .aload_n 0, 0, 0, 0, []), (112, 3, false, .getfield 55, 11, 26, 2, [0]), (115, 1, false, .iload_n 3, 3, 0, 0, []), (116, 1, false, .aaload, 0, 0, 0, []),
  (117, 1, false, .iconst 1, 1, 0, 0, []), (118, 1, false, .iaload, 0, 0, 0, []), (119, 3, false, .if_icmp .ne 7, 126, 0, 0, []), (122, 1, false, .iconst 1, 1, 0, 0, []),
  (123, 3, false, .goto 4, 127, 0, 0, []), (126, 1, false, .iconst 0, 0, 0, 0, []), (127, 1, false, .bastore, 0, 0, 0, []), (128, 3, false, .iinc 4 1, 4, 1, 0, []),
  (131, 3, false, .goto (-75), 56, 0, 0, []), (134, 3, false, .iinc 3 1, 3, 1, 0, []), (137, 3, false, .goto (-101), 36, 0, 0, []), (140, 3, false, .iinc 2 1, 2, 1, 0, []),
  (143, 3, false, .goto (-130), 13, 0, 0, []), (146, 1, false, .iconst 0, 0, 0, 0, []), (147, 1, false, .istore_n 2, 2, 0, 0, []), (148, 1, true, .iload_n 2, 2, 0, 0, []),
  (149, 1, false, .aload_n 0, 0, 0, 0, []), (150, 3, false, .getfield 242, 11, 21, 0, [0]), (153, 3, false, .if_icmp .ge 32, 185, 0, 0, []), (156, 1, false, .aload_n 0, 0, 0, 0, []),
  (157, 3, false, .getfield 133, 11, 58, 2, [0]), (160, 1, false, .iload_n 2, 2, 0, 0, []), (161, 1, false, .iload_n 2, 2, 0, 0, []), (162, 1, false, .iload_n 1, 1, 0, 0, []),
  (163, 3, false, .if_icmp .ne 7, 170, 0, 0, []), (166, 1, false, .iconst 0, 0, 0, 0, []), (167, 3, false, .goto 11, 178, 0, 0, []), (170, 1, false, .aload_n 0, 0, 0, 0, []),
  (171, 3, false, .getfield 55, 11, 26, 2, [0]), (174, 1, false, .iload_n 2, 2, 0, 0, []), (175, 1, false, .aaload, 0, 0, 0, []), (176, 1, false, .iconst 2, 2, 0, 0, []),
  (177, 1, false, .iaload, 0, 0, 0, []), (178, 1, false, .iastore, 0, 0, 0, []), (179, 3, false, .iinc 2 1, 2, 1, 0, []), (182, 3, false, .goto (-34), 148, 0, 0, []),
  (185, 1, false, .aload_n 0, 0, 0, 0, []), (186, 1, false, .iconst 0, 0, 0, 0, []), (187, 1, false, .iconst 0, 0, 0, 0, []), (188, 3, false, .invokevirtual 372, 118, 3, 0, [0, 11]),
  (191, 1, false, .return_, 0, 0, 0, [])]
def k_Mo_falling : List El := [(0, 1, false, .iload_n 1, 1, 0, 0, []), (1, 2, false, .bipush 6, 6, 0, 0, []), (3, 3, false, .if_icmp .eq 13, 16, 0, 0, []), (6, 1, false, .iload_n 1, 1, 0, 0, []),
  (7, 1, false, .aload_n 0, 0, 0, 0, []), (8, 3, false, .getfield 20, 11, 10, 2, [0]), (11, 1, false, .iconst 2, 2, 0, 0, []), (12, 1, false, .iaload, 0, 0, 0, []),
  (13, 3, false, .if_icmp .ne 50, 63, 0, 0, []), (16, 1, false, .iconst 0, 0, 0, 0, []), (17, 1, false, .istore_n 3, 3, 0, 0, []), (18, 1, true, .iload_n 3, 3, 0, 0, []),
  (19, 1, false, .aload_n 0, 0, 0, 0, []), (20, 3, false, .getfield 242, 11, 21, 0, [0]), (23, 3, false, .if_icmp .ge 19, 42, 0, 0, []), (26, 1, false, .aload_n 0, 0, 0, 0, []),
  (27, 3, false, .getfield 133, 11, 58, 2, [0]), (30, 1, false, .iload_n 3, 3, 0, 0, []), (31, 1, false, .iaload, 0, 0, 0, []), (32, 3, false, .ifCond .eq 4, 36, 0, 0, []),
  (35, 1, false, .return_, 0, 0, 0, []), (36, 3, false, .iinc 3 1, 3, 1, 0, []), (39, 3, false, .goto (-21), 18, 0, 0, []), (42, 1, false, .aload_n 0, 0, 0, 0, []),
  (43, 1, false, .dup, 0, 0, 0, []), (44, 3, false, .getfield 366, 11, 59, 0, [0]), (47, 1, false, .iconst 1, 1, 0, 0, []), (48, 1, false, .iadd, 0, 0, 0, []),
  (49, 3, false, .putfield 366, 11, 59, 0, [0]), (52, 1, false, .aload_n 0, 0, 0, 0, []), (53, 1, false, .dup, 0, 0, 0, []), (54, 3, false, .getfield 369, 11, 60, 0, [0]),
  (57, 1, false, .iload_n 2, 2, 0, 0, []), (58, 1, false, .iand, 0, 0, 0, []), (59, 3, false, .putfield 369, 11, 60, 0, [0]), (62, 1, false, .return_, 0, 0, 0, []),
  (63, 1, false, .aload_n 0, 0, 0, 0, []), (64, 1, false, .iload_n 1, 1, 0, 0, []), (65, 1, false, .iconst 1, 1, 0, 0, []), (66, 1, false, .iadd, 0, 0, 0, []),
  (67, 1, false, .iload_n 2, 2, 0, 0, []), (68, 3, false, .invokevirtual 372, 118, 3, 0, [0, 11]), (71, 1, false, .iconst 0, 0, 0, 0, []), (72, 1, false, .istore_n 3, 3, 0, 0, []),
  (73, 1, true, .iload_n 3, 3, 0, 0, []), (74, 1, false, .aload_n 0, 0, 0, 0, []), (75, 3, false, .getfield 242, 11, 21, 0, [0]), (78, 3, false, .if_icmp .ge 86, 164, 0, 0, []),
  (81, 1, false, .aload_n 0, 0, 0, 0, []), (82, 3, false, .getfield 130, 11, 57, 2, [0]), (85, 1, false, .iload_n 1, 1, 0, 0, []), (86, 1, false, .aaload, 0, 0, 0, []),
  (87, 1, false, .iload_n 3, 3, 0, 0, []), (88, 1, false, .baload, 0, 0, 0, []), (89, 3, false, .ifCond .eq 69, 158, 0, 0, []), (92, 1, false, .aload_n 0, 0, 0, 0, []),
  (93, 3, false, .getfield 133, 11, 58, 2, [0]), (96, 1, false, .iload_n 3, 3, 0, 0, []), (97, 1, false, .iaload, 0, 0, 0, []), (98, 1, false, .aload_n 0, 0, 0, 0, []),
  (99, 3, false, .getfield 34, 11, 14, 2, [0]), (102, 1, false, .iload_n 1, 1, 0, 0, []), (103, 1, false, .aaload, 0, 0, 0, []), (104, 1, false, .iconst 4, 4, 0, 0, []),
  (105, 1, false, .iaload, 0, 0, 0, []), (106, 3, false, .if_icmp .ge 6, 112, 0, 0, []), (109, 3, false, .goto 49, 158, 0, 0, []), (112, 1, false, .aload_n 0, 0, 0, 0, []),
  (113, 3, false, .getfield 133, 11, 58, 2, [0]), (116, 1, false, .iload_n 3, 3, 0, 0, []), (117, 1, false, .dup2, 0, 0, 0, []), (118, 1, false, .iaload, 0, 0, 0, []),
  (119, 1, false, .aload_n 0, 0, 0, 0, []), (120, 3, false, .getfield 34, 11, 14, 2, [0]), (123, 1, false, .iload_n 1, 1, 0, 0, []), (124, 1, false, .aaload, 0, 0, 0, []),
  (125, 1, false, .iconst 4, 4, 0, 0, []), (126, 1, false, .iaload, 0, 0, 0, []), (127, 1, false, .isub, 0, 0, 0, []), (128, 1, false, .iastore, 0, 0, 0, []),
  (129, 1, false, .aload_n 0, 0, 0, 0, []), (130, 1, false, .iload_n 1, 1, 0, 0, []), (131, 1, false, .iconst 1, 1, 0, 0, []), (132, 1, false, .iadd, 0, 0, 0, []),
  (133, 1, false, .iload_n 2, 2, 0, 0, []), (134, 1, false, .iconst 1, 1, 0, 0, []), (135, 1, false, .iload_n 1, 1, 0, 0, []), (136, 1, false, .ishl, 0, 0, 0, []),
  (137, 1, false, .ior, 0, 0, 0, []), (138, 3, false, .invokevirtual 372, 118, 3, 0, [0, 11]), (141, 1, false, .aload_n 0, 0, 0, 0, []), (142, 3, false, .getfield 133, 11, 58, 2, [0]),
  (145, 1, false, .iload_n 3, 3, 0, 0, []), (146, 1, false, .dup2, 0, 0, 0, []), (147, 1, false, .iaload, 0, 0, 0, []), (148, 1, false, .aload_n 0, 0, 0, 0, []),
  (149, 3, false, .getfield 34, 11, 14, 2, [0]), (152, 1, false, .iload_n 1, 1, 0, 0, []), (153, 1, false, .aaload, 0, 0, 0, []), (154, 1, false, .iconst 4, 4, 0, 0, []),
  (155, 1, false, .iaload, 0, 0, 0, []), (156, 1, false, .iadd, 0, 0, 0, []), (157, 1, false, .iastore, 0, 0, 0, []), (158, 3, false, .iinc 3 1, 3, 1, 0, []),
  (161, 3, false, .goto (-88), 73, 0, 0, []), (164, 1, false, .return_, 0, 0, 0, [])]
def k_Mo_explain : List El := [(0, 1, false, .aload_n 0, 0, 0, 0, []), (1, 1, false, .iconst 0, 0, 0, 0, []), (2, 3, false, .putfield 139, 11, 0, 0, [0]), (5, 1, false, .aload_n 0, 0, 0, 0, []),
  (6, 1, false, .iload_n 1, 1, 0, 0, []), (7, 1, false, .iconst 0, 0, 0, 0, []), (8, 1, false, .iconst 2, 2, 0, 0, []), (9, 3, false, .invokestatic 173, 46, 3, 0, [0]),
  (12, 3, false, .ifCond .ne 7, 19, 0, 0, []), (15, 1, false, .iconst 1, 1, 0, 0, []), (16, 3, false, .goto 4, 20, 0, 0, []), (19, 1, false, .iconst 0, 0, 0, 0, []),
  (20, 1, false, .iconst 1, 1, 0, 0, []), (21, 3, false, .invokevirtual 229, 45, 3, 0, [0, 11]), (24, 3, false, .ifCond .eq 5, 29, 0, 0, []), (27, 1, false, .iconst 0, 0, 0, 0, []),
  (28, 1, false, .ireturn, 0, 0, 0, []), (29, 1, false, .aload_n 0, 0, 0, 0, []), (30, 1, false, .iconst (-1), 1, 0, 1, []), (31, 3, false, .invokevirtual 375, 117, 2, 0, [0, 11]),
  (34, 1, false, .aload_n 0, 0, 0, 0, []), (35, 3, false, .getfield 366, 11, 59, 0, [0]), (38, 1, false, .istore_n 2, 2, 0, 0, []), (39, 1, false, .iload_n 1, 1, 0, 0, []),
  (40, 1, false, .iconst 2, 2, 0, 0, []), (41, 3, false, .if_icmp .ge 24, 65, 0, 0, []), (44, 1, false, .iload_n 1, 1, 0, 0, []), (45, 3, false, .ifCond .ne 7, 52, 0, 0, []),
  (48, 1, false, .iload_n 2, 2, 0, 0, []), (49, 3, false, .goto 15, 64, 0, 0, []), (52, 1, false, .iload_n 2, 2, 0, 0, []), (53, 3, false, .ifCond .ne 7, 60, 0, 0, []),
  (56, 1, false, .iconst 0, 0, 0, 0, []), (57, 3, false, .goto 7, 64, 0, 0, []), (60, 1, false, .aload_n 0, 0, 0, 0, []), (61, 3, false, .getfield 369, 11, 60, 0, [0]),
  (64, 1, false, .ireturn, 0, 0, 0, []), (65, 1, false, .iconst 0, 0, 0, 0, []), (66, 1, false, .istore_n 3, 3, 0, 0, []), (67, 1, true, .iload_n 3, 3, 0, 0, []),
  (68, 1, false, .aload_n 0, 0, 0, 0, []), (69, 3, false, .getfield 242, 11, 21, 0, [0]), (72, 3, false, .if_icmp .ge 27, 99, 0, 0, []), (75, 1, false, .iload_n 2, 2, 0, 0, []),
  (76, 3, false, .ifCond .ne 23, 99, 0, 0, []), (79, 1, false, .aload_n 0, 0, 0, 0, []), (80, 1, false, .iload_n 3, 3, 0, 0, []), (81, 3, false, .invokevirtual 375, 117, 2, 0, [0, 11]),
  (84, 1, false, .aload_n 0, 0, 0, 0, []), (85, 3, false, .getfield 366, 11, 59, 0, [0]), (88, 3, false, .ifCond .le 5, 93, 0, 0, []), (91, 1, false, .iload_n 3, 3, 0, 0, []),
  (92, 1, false, .ireturn, 0, 0, 0, []), (93, 3, false, .iinc 3 1, 3, 1, 0, []), (96, 3, false, .goto (-29), 67, 0, 0, []), (99, 1, false, .iconst (-1), 1, 0, 1, []),
  (100, 1, false, .ireturn, 0, 0, 0, [])]
def k_Mo_couldBe : List El := [(0, 1, false, .iload_n 2, 2, 0, 0, []), (1, 1, false, .aload_n 0, 0, 0, 0, []), (2, 3, false, .getfield 34, 11, 14, 2, [0]), (5, 1, false, .iload_n 1, 1, 0, 0, []),
  (6, 1, false, .aaload, 0, 0, 0, []), (7, 1, false, .iconst 3, 3, 0, 0, []), (8, 1, false, .iaload, 0, 0, 0, []), (9, 3, false, .if_icmp .ge 5, 14, 0, 0, []),
  (12, 1, false, .lconst 0, 0, 0, 0, []), (13, 1, false, .lreturn, 0, 0, 0, []), (14, 1, false, .lconst 1, 1, 0, 0, []), (15, 1, false, .aload_n 0, 0, 0, 0, []),
  (16, 1, false, .aload_n 0, 0, 0, 0, []), (17, 3, false, .getfield 34, 11, 14, 2, [0]), (20, 1, false, .iload_n 1, 1, 0, 0, []), (21, 1, false, .aaload, 0, 0, 0, []),
  (22, 1, false, .iconst 0, 0, 0, 0, []), (23, 1, false, .iaload, 0, 0, 0, []), (24, 1, false, .aload_n 0, 0, 0, 0, []), (25, 3, false, .getfield 34, 11, 14, 2, [0]),
  (28, 1, false, .iload_n 1, 1, 0, 0, []), (29, 1, false, .aaload, 0, 0, 0, []), (30, 1, false, .iconst 1, 1, 0, 0, []), (31, 1, false, .iaload, 0, 0, 0, []),
  (32, 3, false, .invokevirtual 300, 85, 3, 0, [0, 11]), (35, 1, false, .lshl, 0, 0, 0, []), (36, 1, false, .lstore_n 3, 3, 0, 0, []), (37, 1, false, .aload_n 0, 0, 0, 0, []),
  (38, 3, false, .getfield 34, 11, 14, 2, [0]), (41, 1, false, .iload_n 1, 1, 0, 0, []), (42, 1, false, .aaload, 0, 0, 0, []), (43, 1, false, .iconst 3, 3, 0, 0, []),
  (44, 1, false, .iaload, 0, 0, 0, []), (45, 1, false, .iconst 1, 1, 0, 0, []), (46, 1, false, .iadd, 0, 0, 0, []), (47, 2, false, .istore 5, 5, 0, 0, []),
  (49, 2, true, .iload 5, 5, 0, 0, []), (51, 1, false, .iload_n 2, 2, 0, 0, []), (52, 3, false, .if_icmp .gt 174, 226, 0, 0, []), (55, 1, false, .lconst 0, 0, 0, 0, []),
  (56, 2, false, .lstore 6, 6, 0, 0, []), (58, 1, false, .aload_n 0, 0, 0, 0, []), (59, 1, false, .aload_n 0, 0, 0, 0, []), (60, 3, false, .getfield 34, 11, 14, 2, [0]),
  (63, 1, false, .iload_n 1, 1, 0, 0, []), (64, 1, false, .aaload, 0, 0, 0, []), (65, 1, false, .iconst 2, 2, 0, 0, []), (66, 1, false, .iaload, 0, 0, 0, []),
  (67, 2, false, .iload 5, 5, 0, 0, []), (69, 1, false, .iconst 0, 0, 0, 0, []), (70, 3, false, .invokevirtual 254, 71, 4, 0, [0, 11]), (73, 2, false, .istore 8, 8, 0, 0, []),
  (75, 1, false, .aload_n 0, 0, 0, 0, []), (76, 1, false, .aload_n 0, 0, 0, 0, []), (77, 3, false, .getfield 34, 11, 14, 2, [0]), (80, 1, false, .iload_n 1, 1, 0, 0, []),
  (81, 1, false, .aaload, 0, 0, 0, []), (82, 1, false, .iconst 2, 2, 0, 0, []), (83, 1, false, .iaload, 0, 0, 0, []), (84, 2, false, .iload 5, 5, 0, 0, []),
  (86, 1, false, .iconst 1, 1, 0, 0, []), (87, 3, false, .invokevirtual 254, 71, 4, 0, [0, 11]), (90, 2, false, .istore 9, 9, 0, 0, []), (92, 1, false, .iconst 0, 0, 0, 0, []),
  (93, 2, false, .istore 10, 10, 0, 0, []), (95, 2, true, .iload 10, 10, 0, 0, []), (97, 1, false, .aload_n 0, 0, 0, 0, []), (98, 3, false, .getfield 20, 11, 10, 2, [0]),
  (101, 1, false, .iconst 0, 0, 0, 0, []), (102, 1, false, .iaload, 0, 0, 0, []), (103, 1, false, .aload_n 0, 0, 0, 0, []), (104, 3, false, .getfield 20, 11, 10, 2, [0]),
  (107, 1, false, .iconst 1, 1, 0, 0, []), (108, 1, false, .iaload, 0, 0, 0, []), (109, 1, false, .imul, 0, 0, 0, []), (110, 3, false, .if_icmp .ge 107, 217, 0, 0, []),
  (113, 1, false, .lload_n 3, 3, 0, 0, []), (114, 2, false, .iload 10, 10, 0, 0, []), (116, 1, false, .lushr, 0, 0, 0, []), (117, 1, false, .lconst 1, 1, 0, 0, []),
  (118, 1, false, .land, 0, 0, 0, []), (119, 1, false, .lconst 0, 0, 0, 0, []), (120, 1, false, .lcmp, 0, 0, 0, []), (121, 3, false, .ifCond .ne 6, 127, 0, 0, []),
  (124, 3, false, .goto 87, 211, 0, 0, []), (127, 1, false, .iconst 0, 0, 0, 0, []), (128, 2, false, .istore 11, 11, 0, 0, []), (130, 2, true, .iload 11, 11, 0, 0, []),
  (132, 2, false, .bipush 9, 9, 0, 0, []), (134, 3, false, .if_icmp .ge 77, 211, 0, 0, []), (137, 2, false, .iload 10, 10, 0, 0, []), (139, 1, false, .aload_n 0, 0, 0, 0, []),
  (140, 3, false, .getfield 20, 11, 10, 2, [0]), (143, 1, false, .iconst 0, 0, 0, 0, []), (144, 1, false, .iaload, 0, 0, 0, []), (145, 1, false, .irem, 0, 0, 0, []),
  (146, 2, false, .iload 8, 8, 0, 0, []), (148, 1, false, .iadd, 0, 0, 0, []), (149, 2, false, .iload 11, 11, 0, 0, []), (151, 1, false, .iconst 3, 3, 0, 0, []),
  (152, 1, false, .irem, 0, 0, 0, []), (153, 1, false, .iadd, 0, 0, 0, []), (154, 1, false, .iconst 1, 1, 0, 0, []), (155, 1, false, .isub, 0, 0, 0, []),
  (156, 2, false, .istore 12, 12, 0, 0, []), (158, 2, false, .iload 10, 10, 0, 0, []), (160, 1, false, .aload_n 0, 0, 0, 0, []), (161, 3, false, .getfield 20, 11, 10, 2, [0]),
  (164, 1, false, .iconst 0, 0, 0, 0, []), (165, 1, false, .iaload, 0, 0, 0, []), (166, 1, false, .idiv, 0, 0, 0, []), (167, 2, false, .iload 9, 9, 0, 0, []),
  (169, 1, false, .iadd, 0, 0, 0, []), (170, 2, false, .iload 11, 11, 0, 0, []), (172, 1, false, .iconst 3, 3, 0, 0, []), (173, 1, false, .idiv, 0, 0, 0, []),
  (174, 1, false, .iadd, 0, 0, 0, []), (175, 1, false, .iconst 1, 1, 0, 0, []), (176, 1, false, .isub, 0, 0, 0, []), (177, 2, false, .istore 13, 13, 0, 0, []),
  (179, 1, false, .aload_n 0, 0, 0, 0, []), (180, 2, false, .iload 12, 12, 0, 0, []), (182, 2, false, .iload 13, 13, 0, 0, []), (184, 3, false, .invokevirtual 258, 72, 3, 0, [0, 11]),
  (187, 3, false, .ifCond .eq 18, 205, 0, 0, []), (190, 2, false, .lload 6, 6, 0, 0, []), (192, 1, false, .lconst 1, 1, 0, 0, []), (193, 1, false, .aload_n 0, 0, 0, 0, []),
  (194, 2, false, .iload 12, 12, 0, 0, []), (196, 2, false, .iload 13, 13, 0, 0, []), (198, 3, false, .invokevirtual 300, 85, 3, 0, [0, 11]), (201, 1, false, .lshl, 0, 0, 0, []),
  (202, 1, false, .lor, 0, 0, 0, []), (203, 2, false, .lstore 6, 6, 0, 0, []), (205, 3, false, .iinc 11 1, 11, 1, 0, []), (208, 3, false, .goto (-78), 130, 0, 0, []),
  (211, 3, false, .iinc 10 1, 10, 1, 0, []), (214, 3, false, .goto (-119), 95, 0, 0, []), (217, 2, false, .lload 6, 6, 0, 0, []), (219, 1, false, .lstore_n 3, 3, 0, 0, []),
  (220, 3, false, .iinc 5 1, 5, 1, 0, []), (223, 3, false, .goto (-174), 49, 0, 0, []), (226, 1, false, .lload_n 3, 3, 0, 0, []), (227, 1, false, .lreturn, 0, 0, 0, [])]
def k_Mo_doubt : List El := [(0, 1, false, .aload_n 0, 0, 0, 0, []), (1, 1, false, .iconst 0, 0, 0, 0, []), (2, 3, false, .putfield 139, 11, 0, 0, [0]), (5, 1, false, .aload_n 0, 0, 0, 0, []),
  (6, 1, false, .aload_n 0, 0, 0, 0, []), (7, 1, false, .iload_n 1, 1, 0, 0, []), (8, 3, false, .invokevirtual 248, 67, 2, 0, [0, 11]), (11, 3, false, .ifCond .ne 7, 18, 0, 0, []),
  (14, 1, false, .iconst 1, 1, 0, 0, []), (15, 3, false, .goto 4, 19, 0, 0, []), (18, 1, false, .iconst 0, 0, 0, 0, []), (19, 1, false, .iconst 1, 1, 0, 0, []),
  (20, 3, false, .invokevirtual 229, 45, 3, 0, [0, 11]), (23, 3, false, .ifCond .ne 23, 46, 0, 0, []), (26, 1, false, .aload_n 0, 0, 0, 0, []), (27, 1, false, .iload_n 2, 2, 0, 0, []),
  (28, 3, false, .invokestatic 262, 69, 1, 0, [0]), (31, 3, false, .ifCond .ne 7, 38, 0, 0, []), (34, 1, false, .iconst 1, 1, 0, 0, []), (35, 3, false, .goto 4, 39, 0, 0, []),
  (38, 1, false, .iconst 0, 0, 0, 0, []), (39, 1, false, .iconst 2, 2, 0, 0, []), (40, 3, false, .invokevirtual 229, 45, 3, 0, [0, 11]), (43, 3, false, .ifCond .eq 5, 48, 0, 0, []),
  (46, 1, false, .lconst 0, 0, 0, 0, []), (47, 1, false, .lreturn, 0, 0, 0, []), (48, 1, false, .aload_n 0, 0, 0, 0, []), (49, 1, false, .iload_n 1, 1, 0, 0, []),
  (50, 1, false, .iload_n 2, 2, 0, 0, []), (51, 3, false, .invokevirtual 378, 120, 3, 0, [0, 11]), (54, 1, false, .lreturn, 0, 0, 0, [])]
def k_Mo_worst : List El := [(0, 1, false, .aload_n 0, 0, 0, 0, []), (1, 1, false, .iconst 0, 0, 0, 0, []), (2, 3, false, .putfield 139, 11, 0, 0, [0]), (5, 1, false, .aload_n 0, 0, 0, 0, []),
  (6, 1, false, .aload_n 0, 0, 0, 0, []), (7, 1, false, .iload_n 1, 1, 0, 0, []), (8, 3, false, .invokevirtual 248, 67, 2, 0, [0, 11]), (11, 3, false, .ifCond .ne 7, 18, 0, 0, []),
  (14, 1, false, .iconst 1, 1, 0, 0, []), (15, 3, false, .goto 4, 19, 0, 0, []), (18, 1, false, .iconst 0, 0, 0, 0, []), (19, 1, false, .iconst 1, 1, 0, 0, []),
  (20, 3, false, .invokevirtual 229, 45, 3, 0, [0, 11]), (23, 3, false, .ifCond .ne 23, 46, 0, 0, []), (26, 1, false, .aload_n 0, 0, 0, 0, []), (27, 1, false, .iload_n 2, 2, 0, 0, []),
  (28, 3, false, .invokestatic 262, 69, 1, 0, [0]), (31, 3, false, .ifCond .ne 7, 38, 0, 0, []), (34, 1, false, .iconst 1, 1, 0, 0, []), (35, 3, false, .goto 4, 39, 0, 0, []),
  (38, 1, false, .iconst 0, 0, 0, 0, []), (39, 1, false, .iconst 2, 2, 0, 0, []), (40, 3, false, .invokevirtual 229, 45, 3, 0, [0, 11]), (43, 3, false, .ifCond .eq 5, 48, 0, 0, []),
  (46, 1, false, .iconst 0, 0, 0, 0, []), (47, 1, false, .ireturn, 0, 0, 0, []), (48, 1, false, .aload_n 0, 0, 0, 0, []), (49, 1, false, .iload_n 1, 1, 0, 0, []),
  (50, 1, false, .iload_n 2, 2, 0, 0, []), (51, 3, false, .invokevirtual 378, 120, 3, 0, [0, 11]), (54, 1, false, .lstore_n 3, 3, 0, 0, []), (55, 1, false, .iconst (-1), 1, 0, 1, []),
  (56, 2, false, .istore 5, 5, 0, 0, []), (58, 1, false, .iconst 0, 0, 0, 0, []), (59, 2, false, .istore 6, 6, 0, 0, []), (61, 2, true, .iload 6, 6, 0, 0, []),
  (63, 1, false, .aload_n 0, 0, 0, 0, []), (64, 3, false, .getfield 20, 11, 10, 2, [0]), (67, 1, false, .iconst 3, 3, 0, 0, []), (68, 1, false, .iaload, 0, 0, 0, []),
  (69, 3, false, .if_icmp .ge 71, 140, 0, 0, []), (72, 1, false, .lload_n 3, 3, 0, 0, []), (73, 1, false, .aload_n 0, 0, 0, 0, []), (74, 1, false, .aload_n 0, 0, 0, 0, []),
  (75, 3, false, .getfield 40, 11, 16, 2, [0]), (78, 2, false, .iload 6, 6, 0, 0, []), (80, 1, false, .aaload, 0, 0, 0, []), (81, 1, false, .iconst 0, 0, 0, 0, []),
  (82, 1, false, .iaload, 0, 0, 0, []), (83, 1, false, .aload_n 0, 0, 0, 0, []), (84, 3, false, .getfield 40, 11, 16, 2, [0]), (87, 2, false, .iload 6, 6, 0, 0, []),
  (89, 1, false, .aaload, 0, 0, 0, []), (90, 1, false, .iconst 1, 1, 0, 0, []), (91, 1, false, .iaload, 0, 0, 0, []), (92, 3, false, .invokevirtual 300, 85, 3, 0, [0, 11]),
  (95, 1, false, .lushr, 0, 0, 0, []), (96, 1, false, .lconst 1, 1, 0, 0, []), (97, 1, false, .land, 0, 0, 0, []), (98, 1, false, .lconst 1, 1, 0, 0, []),
  (99, 1, false, .lcmp, 0, 0, 0, []), (100, 3, false, .ifCond .ne 34, 134, 0, 0, []), (103, 2, false, .iload 5, 5, 0, 0, []), (105, 1, false, .iconst (-1), 1, 0, 1, []),
  (106, 3, false, .if_icmp .eq 24, 130, 0, 0, []), (109, 1, false, .aload_n 0, 0, 0, 0, []), (110, 3, false, .getfield 40, 11, 16, 2, [0]), (113, 2, false, .iload 6, 6, 0, 0, []),
  (115, 1, false, .aaload, 0, 0, 0, []), (116, 1, false, .iconst 4, 4, 0, 0, []), (117, 1, false, .iaload, 0, 0, 0, []), (118, 1, false, .aload_n 0, 0, 0, 0, []),
  (119, 3, false, .getfield 40, 11, 16, 2, [0]), (122, 2, false, .iload 5, 5, 0, 0, []), (124, 1, false, .aaload, 0, 0, 0, []), (125, 1, false, .iconst 4, 4, 0, 0, []),
  (126, 1, false, .iaload, 0, 0, 0, []), (127, 3, false, .if_icmp .le 7, 134, 0, 0, []), (130, 2, false, .iload 6, 6, 0, 0, []), (132, 2, false, .istore 5, 5, 0, 0, []),
  (134, 3, false, .iinc 6 1, 6, 1, 0, []), (137, 3, false, .goto (-76), 61, 0, 0, []), (140, 2, false, .iload 5, 5, 0, 0, []), (142, 1, false, .ireturn, 0, 0, 0, [])]
def k_Mo_keeps : List El := [(0, 1, false, .iload_n 3, 3, 0, 0, []), (1, 3, false, .ifCond .ne 10, 11, 0, 0, []), (4, 1, false, .aload_n 1, 1, 0, 0, []), (5, 1, false, .aload_n 0, 0, 0, 0, []),
  (6, 3, false, .getfield 382, 11, 23, 0, [0]), (9, 1, false, .iload_n 2, 2, 0, 0, []), (10, 1, false, .iastore, 0, 0, 0, []), (11, 1, false, .aload_n 0, 0, 0, 0, []),
  (12, 1, false, .dup, 0, 0, 0, []), (13, 3, false, .getfield 382, 11, 23, 0, [0]), (16, 1, false, .iconst 1, 1, 0, 0, []), (17, 1, false, .iadd, 0, 0, 0, []),
  (18, 3, false, .putfield 382, 11, 23, 0, [0]), (21, 1, false, .aload_n 1, 1, 0, 0, []), (22, 1, false, .aload_n 0, 0, 0, 0, []), (23, 3, false, .getfield 382, 11, 23, 0, [0]),
  (26, 1, false, .iconst 1, 1, 0, 0, []), (27, 1, false, .isub, 0, 0, 0, []), (28, 1, false, .iaload, 0, 0, 0, []), (29, 1, false, .ireturn, 0, 0, 0, [])]
def k_Mo_keepsAll : List El := [(0, 1, false, .aload_n 0, 0, 0, 0, []), (1, 1, false, .iconst 0, 0, 0, 0, []), (2, 3, false, .putfield 382, 11, 23, 0, [0]), (5, 1, false, .aload_n 0, 0, 0, 0, []),
  (6, 1, false, .aload_n 0, 0, 0, 0, []), (7, 1, false, .aload_n 1, 1, 0, 0, []), (8, 1, false, .aload_n 0, 0, 0, 0, []), (9, 3, false, .getfield 236, 11, 19, 0, [0]),
  (12, 1, false, .iload_n 2, 2, 0, 0, []), (13, 3, false, .invokevirtual 385, 123, 4, 0, [0, 11]), (16, 3, false, .putfield 236, 11, 19, 0, [0]), (19, 1, false, .aload_n 0, 0, 0, 0, []),
  (20, 1, false, .aload_n 0, 0, 0, 0, []), (21, 1, false, .aload_n 1, 1, 0, 0, []), (22, 1, false, .aload_n 0, 0, 0, 0, []), (23, 3, false, .getfield 239, 11, 20, 0, [0]),
  (26, 1, false, .iload_n 2, 2, 0, 0, []), (27, 3, false, .invokevirtual 385, 123, 4, 0, [0, 11]), (30, 3, false, .putfield 239, 11, 20, 0, [0]), (33, 1, false, .aload_n 0, 0, 0, 0, []),
  (34, 1, false, .aload_n 0, 0, 0, 0, []), (35, 1, false, .aload_n 1, 1, 0, 0, []), (36, 1, false, .aload_n 0, 0, 0, 0, []), (37, 3, false, .getfield 242, 11, 21, 0, [0]),
  (40, 1, false, .iload_n 2, 2, 0, 0, []), (41, 3, false, .invokevirtual 385, 123, 4, 0, [0, 11]), (44, 3, false, .putfield 242, 11, 21, 0, [0]), (47, 1, false, .iconst 0, 0, 0, 0, []),
  (48, 1, false, .istore_n 3, 3, 0, 0, []), (49, 1, true, .iload_n 3, 3, 0, 0, []), (50, 2, false, .bipush 30, 30, 0, 0, []), (52, 3, false, .if_icmp .ge 48, 100, 0, 0, []),
  (55, 1, false, .iconst 0, 0, 0, 0, []), (56, 2, false, .istore 4, 4, 0, 0, []), (58, 2, true, .iload 4, 4, 0, 0, []), (60, 1, false, .iconst 4, 4, 0, 0, []),
  (61, 3, false, .if_icmp .ge 33, 94, 0, 0, []), (64, 1, false, .aload_n 0, 0, 0, 0, []), (65, 3, false, .getfield 49, 11, 24, 2, [0]), (68, 1, false, .iload_n 3, 3, 0, 0, []),
  (69, 1, false, .aaload, 0, 0, 0, []), (70, 2, false, .iload 4, 4, 0, 0, []), (72, 1, false, .aload_n 0, 0, 0, 0, []), (73, 1, false, .aload_n 1, 1, 0, 0, []),
  (74, 1, false, .aload_n 0, 0, 0, 0, []), (75, 3, false, .getfield 49, 11, 24, 2, [0]), (78, 1, false, .iload_n 3, 3, 0, 0, []), (79, 1, false, .aaload, 0, 0, 0, []),
  (80, 2, false, .iload 4, 4, 0, 0, []), (82, 1, false, .iaload, 0, 0, 0, []), (83, 1, false, .iload_n 2, 2, 0, 0, []), (84, 3, false, .invokevirtual 385, 123, 4, 0, [0, 11]),
  (87, 1, false, .iastore, 0, 0, 0, []), (88, 3, false, .iinc 4 1, 4, 1, 0, []), (91, 3, false, .goto (-33), 58, 0, 0, []), (94, 3, false, .iinc 3 1, 3, 1, 0, []),
  (97, 3, false, .goto (-48), 49, 0, 0, []), (100, 1, false, .iconst 0, 0, 0, 0, []), (101, 1, false, .istore_n 3, 3, 0, 0, []), (102, 1, true, .iload_n 3, 3, 0, 0, []),
  (103, 2, false, .bipush 8, 8, 0, 0, []), (105, 3, false, .if_icmp .ge 48, 153, 0, 0, []), (108, 1, false, .iconst 0, 0, 0, 0, []), (109, 2, false, .istore 4, 4, 0, 0, []),
  (111, 2, true, .iload 4, 4, 0, 0, []), (113, 1, false, .iconst 3, 3, 0, 0, []), (114, 3, false, .if_icmp .ge 33, 147, 0, 0, []), (117, 1, false, .aload_n 0, 0, 0, 0, []),
  (118, 3, false, .getfield 52, 11, 25, 2, [0]), (121, 1, false, .iload_n 3, 3, 0, 0, []), (122, 1, false, .aaload, 0, 0, 0, []), (123, 2, false, .iload 4, 4, 0, 0, []),
  (125, 1, false, .aload_n 0, 0, 0, 0, []), (126, 1, false, .aload_n 1, 1, 0, 0, []), (127, 1, false, .aload_n 0, 0, 0, 0, []), (128, 3, false, .getfield 52, 11, 25, 2, [0]),
  (131, 1, false, .iload_n 3, 3, 0, 0, []), (132, 1, false, .aaload, 0, 0, 0, []), (133, 2, false, .iload 4, 4, 0, 0, []), (135, 1, false, .iaload, 0, 0, 0, []),
  (136, 1, false, .iload_n 2, 2, 0, 0, []), (137, 3, false, .invokevirtual 385, 123, 4, 0, [0, 11]), (140, 1, false, .iastore, 0, 0, 0, []), (141, 3, false, .iinc 4 1, 4, 1, 0, []),
  (144, 3, false, .goto (-33), 111, 0, 0, []), (147, 3, false, .iinc 3 1, 3, 1, 0, []), (150, 3, false, .goto (-48), 102, 0, 0, []), (153, 1, false, .iconst 0, 0, 0, 0, []),
  (154, 1, false, .istore_n 3, 3, 0, 0, []), (155, 1, true, .iload_n 3, 3, 0, 0, []), (156, 2, false, .bipush 9, 9, 0, 0, []), (158, 3, false, .if_icmp .ge 48, 206, 0, 0, []),
  (161, 1, false, .iconst 0, 0, 0, 0, []), (162, 2, false, .istore 4, 4, 0, 0, []), (164, 2, true, .iload 4, 4, 0, 0, []), (166, 1, false, .iconst 3, 3, 0, 0, []),
  (167, 3, false, .if_icmp .ge 33, 200, 0, 0, []), (170, 1, false, .aload_n 0, 0, 0, 0, []), (171, 3, false, .getfield 55, 11, 26, 2, [0]), (174, 1, false, .iload_n 3, 3, 0, 0, []),
  (175, 1, false, .aaload, 0, 0, 0, []), (176, 2, false, .iload 4, 4, 0, 0, []), (178, 1, false, .aload_n 0, 0, 0, 0, []), (179, 1, false, .aload_n 1, 1, 0, 0, []),
  (180, 1, false, .aload_n 0, 0, 0, 0, []), (181, 3, false, .getfield 55, 11, 26, 2, [0]), (184, 1, false, .iload_n 3, 3, 0, 0, []), (185, 1, false, .aaload, 0, 0, 0, []),
  (186, 2, false, .iload 4, 4, 0, 0, []), (188, 1, false, .iaload, 0, 0, 0, []), (189, 1, false, .iload_n 2, 2, 0, 0, []), (190, 3, false, .invokevirtual 385, 123, 4, 0, [0, 11]),
  (193, 1, false, .iastore, 0, 0, 0, []), (194, 3, false, .iinc 4 1, 4, 1, 0, []), (197, 3, false, .goto (-33), 164, 0, 0, []), (200, 3, false, .iinc 3 1, 3, 1, 0, []),
  (203, 3, false, .goto (-48), 155, 0, 0, []), (206, 1, false, .return_, 0, 0, 0, [])]
def k_Mo_image : List El := [(0, 1, false, .aload_n 0, 0, 0, 0, []), (1, 1, false, .iconst 0, 0, 0, 0, []), (2, 3, false, .putfield 139, 11, 0, 0, [0]), (5, 1, false, .aload_n 0, 0, 0, 0, []),
  (6, 3, false, .getfield 245, 11, 22, 0, [0]), (9, 1, false, .iconst 3, 3, 0, 0, []), (10, 3, false, .if_icmp .ne 5, 15, 0, 0, []), (13, 1, false, .iconst (-1), 1, 0, 1, []),
  (14, 1, false, .ireturn, 0, 0, 0, []), (15, 1, false, .aload_n 0, 0, 0, 0, []), (16, 1, false, .aload_n 0, 0, 0, 0, []), (17, 3, false, .getfield 58, 11, 27, 2, [0]),
  (20, 1, false, .aload_n 0, 0, 0, 0, []), (21, 3, false, .getfield 245, 11, 22, 0, [0]), (24, 1, false, .aaload, 0, 0, 0, []), (25, 1, false, .iconst 0, 0, 0, 0, []),
  (26, 3, false, .invokevirtual 389, 124, 3, 0, [0, 11]), (29, 1, false, .aload_n 0, 0, 0, 0, []), (30, 1, false, .dup, 0, 0, 0, []), (31, 3, false, .getfield 245, 11, 22, 0, [0]),
  (34, 1, false, .iconst 1, 1, 0, 0, []), (35, 1, false, .iadd, 0, 0, 0, []), (36, 3, false, .putfield 245, 11, 22, 0, [0]), (39, 1, false, .aload_n 0, 0, 0, 0, []),
  (40, 3, false, .getfield 245, 11, 22, 0, [0]), (43, 1, false, .ireturn, 0, 0, 0, [])]
def k_Mo_restore : List El := [(0, 1, false, .aload_n 0, 0, 0, 0, []), (1, 1, false, .iconst 0, 0, 0, 0, []), (2, 3, false, .putfield 139, 11, 0, 0, [0]), (5, 1, false, .aload_n 0, 0, 0, 0, []),
  (6, 3, false, .getfield 245, 11, 22, 0, [0]), (9, 3, false, .ifCond .ne 5, 14, 0, 0, []), (12, 1, false, .iconst (-1), 1, 0, 1, []), (13, 1, false, .ireturn, 0, 0, 0, []),
  (14, 1, false, .aload_n 0, 0, 0, 0, []), (15, 1, false, .dup, 0, 0, 0, []), (16, 3, false, .getfield 245, 11, 22, 0, [0]), (19, 1, false, .iconst 1, 1, 0, 0, []),
  (20, 1, false, .isub, 0, 0, 0, []), (21, 3, false, .putfield 245, 11, 22, 0, [0]), (24, 1, false, .aload_n 0, 0, 0, 0, []), (25, 1, false, .aload_n 0, 0, 0, 0, []),
  (26, 3, false, .getfield 58, 11, 27, 2, [0]), (29, 1, false, .aload_n 0, 0, 0, 0, []), (30, 3, false, .getfield 245, 11, 22, 0, [0]), (33, 1, false, .aaload, 0, 0, 0, []),
  (34, 1, false, .iconst 1, 1, 0, 0, []), (35, 3, false, .invokevirtual 389, 124, 3, 0, [0, 11]), (38, 1, false, .aload_n 0, 0, 0, 0, []), (39, 3, false, .getfield 245, 11, 22, 0, [0]),
  (42, 1, false, .ireturn, 0, 0, 0, [])]
def k_Mo_count : List El := [(0, 1, false, .aload_n 0, 0, 0, 0, []), (1, 1, false, .iconst 0, 0, 0, 0, []), (2, 3, false, .putfield 139, 11, 0, 0, [0]), (5, 1, false, .iload_n 1, 1, 0, 0, []),
  (6, 34, false, .tableswitch 59 0 4 #[34, 39, 44, 49, 54], 65, 0, 0, [40, 45, 50, 55, 60]), (40, 1, false, .aload_n 0, 0, 0, 0, []), (41, 3, false, .getfield 236, 11, 19, 0, [0]), (44, 1, false, .ireturn, 0, 0, 0, []),
  (45, 1, false, .aload_n 0, 0, 0, 0, []), (46, 3, false, .getfield 239, 11, 20, 0, [0]), (49, 1, false, .ireturn, 0, 0, 0, []), (50, 1, false, .aload_n 0, 0, 0, 0, []),
  (51, 3, false, .getfield 242, 11, 21, 0, [0]), (54, 1, false, .ireturn, 0, 0, 0, []), (55, 1, false, .aload_n 0, 0, 0, 0, []), (56, 3, false, .getfield 245, 11, 22, 0, [0]),
  (59, 1, false, .ireturn, 0, 0, 0, []), (60, 1, false, .aload_n 0, 0, 0, 0, []), (61, 3, false, .getfield 142, 11, 1, 0, [0]), (64, 1, false, .ireturn, 0, 0, 0, []),
  (65, 1, false, .iconst (-1), 1, 0, 1, []), (66, 1, false, .ireturn, 0, 0, 0, [])]
def k_Book_init : List El := [(0, 1, false, .aload_n 0, 0, 0, 0, []), (1, 3, false, .invokespecial 3, 0, 0, 9, []), (4, 1, false, .aload_n 0, 0, 0, 0, []), (5, 3, false, .new 9, 8, 4, 0, []),
  (8, 1, false, .dup, 0, 0, 0, []), (9, 2, false, .bipush 30, 30, 0, 0, []), (11, 1, false, .iconst 4, 4, 0, 0, []), (12, 3, false, .invokespecial 11, 227, 3, 1, [0]),
  (15, 3, false, .putfield 14, 0, 0, 2, [0]), (18, 1, false, .aload_n 0, 0, 0, 0, []), (19, 3, false, .new 9, 8, 4, 0, []), (22, 1, false, .dup, 0, 0, 0, []),
  (23, 2, false, .bipush 8, 8, 0, 0, []), (25, 1, false, .iconst 3, 3, 0, 0, []), (26, 3, false, .invokespecial 11, 227, 3, 1, [0]), (29, 3, false, .putfield 20, 0, 1, 2, [0]),
  (32, 1, false, .aload_n 0, 0, 0, 0, []), (33, 3, false, .new 9, 8, 4, 0, []), (36, 1, false, .dup, 0, 0, 0, []), (37, 2, false, .bipush 9, 9, 0, 0, []),
  (39, 1, false, .iconst 3, 3, 0, 0, []), (40, 3, false, .invokespecial 11, 227, 3, 1, [0]), (43, 3, false, .putfield 23, 0, 2, 2, [0]), (46, 1, false, .return_, 0, 0, 0, [])]
def k_Book_wipe : List El := [(0, 1, false, .aload_n 0, 0, 0, 0, []), (1, 3, false, .getfield 14, 0, 0, 2, [0]), (4, 3, false, .invokevirtual 26, 237, 1, 0, [0, 8]), (7, 1, false, .aload_n 0, 0, 0, 0, []),
  (8, 3, false, .getfield 20, 0, 1, 2, [0]), (11, 3, false, .invokevirtual 26, 237, 1, 0, [0, 8]), (14, 1, false, .aload_n 0, 0, 0, 0, []), (15, 3, false, .getfield 23, 0, 2, 2, [0]),
  (18, 3, false, .invokevirtual 26, 237, 1, 0, [0, 8]), (21, 1, false, .return_, 0, 0, 0, [])]
def k_Book_copyFrom : List El := [(0, 1, false, .aload_n 0, 0, 0, 0, []), (1, 3, false, .getfield 14, 0, 0, 2, [0]), (4, 1, false, .aload_n 1, 1, 0, 0, []), (5, 3, false, .getfield 14, 0, 0, 2, [0]),
  (8, 3, false, .invokevirtual 29, 239, 2, 0, [0, 8]), (11, 1, false, .aload_n 0, 0, 0, 0, []), (12, 3, false, .getfield 20, 0, 1, 2, [0]), (15, 1, false, .aload_n 1, 1, 0, 0, []),
  (16, 3, false, .getfield 20, 0, 1, 2, [0]), (19, 3, false, .invokevirtual 29, 239, 2, 0, [0, 8]), (22, 1, false, .aload_n 0, 0, 0, 0, []), (23, 3, false, .getfield 23, 0, 2, 2, [0]),
  (26, 1, false, .aload_n 1, 1, 0, 0, []), (27, 3, false, .getfield 23, 0, 2, 2, [0]), (30, 3, false, .invokevirtual 29, 239, 2, 0, [0, 8]), (33, 1, false, .return_, 0, 0, 0, [])]
def k_Book_isOrder : List El := [(0, 1, false, .iload_n 0, 0, 0, 0, []), (1, 27, false, .tableswitch 71 0 2 #[27, 45, 61], 72, 0, 0, [28, 46, 62]), (28, 1, false, .iload_n 1, 1, 0, 0, []), (29, 1, false, .iconst 1, 1, 0, 0, []),
  (30, 3, false, .if_icmp .lt 14, 44, 0, 0, []), (33, 1, false, .iload_n 1, 1, 0, 0, []), (34, 3, false, .sipush 999, 999, 0, 0, []), (37, 3, false, .if_icmp .gt 7, 44, 0, 0, []),
  (40, 1, false, .iconst 1, 1, 0, 0, []), (41, 3, false, .goto 4, 45, 0, 0, []), (44, 1, false, .iconst 0, 0, 0, 0, []), (45, 1, false, .ireturn, 0, 0, 1, []),
  (46, 1, false, .iload_n 1, 1, 0, 0, []), (47, 3, false, .ifCond .lt 13, 60, 0, 0, []), (50, 1, false, .iload_n 1, 1, 0, 0, []), (51, 2, false, .bipush 8, 8, 0, 0, []),
  (53, 3, false, .if_icmp .gt 7, 60, 0, 0, []), (56, 1, false, .iconst 1, 1, 0, 0, []), (57, 3, false, .goto 4, 61, 0, 0, []), (60, 1, false, .iconst 0, 0, 0, 0, []),
  (61, 1, false, .ireturn, 0, 0, 1, []), (62, 1, false, .iload_n 1, 1, 0, 0, []), (63, 3, false, .ifCond .ne 7, 70, 0, 0, []), (66, 1, false, .iconst 1, 1, 0, 0, []),
  (67, 3, false, .goto 4, 71, 0, 0, []), (70, 1, false, .iconst 0, 0, 0, 0, []), (71, 1, false, .ireturn, 0, 0, 1, []), (72, 1, false, .iconst 0, 0, 0, 0, []),
  (73, 1, false, .ireturn, 0, 0, 1, [])]
def k_Book_giveOrder : List El := [(0, 1, false, .aload_n 0, 0, 0, 0, []), (1, 3, false, .getfield 14, 0, 0, 2, [0]), (4, 3, false, .invokevirtual 33, 233, 1, 0, [0, 8]), (7, 2, false, .istore 5, 5, 0, 0, []),
  (9, 2, false, .iload 5, 5, 0, 0, []), (11, 1, false, .iconst (-1), 1, 0, 1, []), (12, 3, false, .if_icmp .ne 5, 17, 0, 0, []), (15, 1, false, .iconst (-1), 1, 0, 1, []),
  (16, 1, false, .ireturn, 0, 0, 0, []), (17, 1, false, .aload_n 0, 0, 0, 0, []), (18, 3, false, .getfield 14, 0, 0, 2, [0]), (21, 2, false, .iload 5, 5, 0, 0, []),
  (23, 1, false, .iconst 0, 0, 0, 0, []), (24, 1, false, .iload_n 1, 1, 0, 0, []), (25, 3, false, .invokevirtual 37, 231, 4, 0, [0, 8]), (28, 1, false, .aload_n 0, 0, 0, 0, []),
  (29, 3, false, .getfield 14, 0, 0, 2, [0]), (32, 2, false, .iload 5, 5, 0, 0, []), (34, 1, false, .iconst 1, 1, 0, 0, []), (35, 1, false, .iload_n 2, 2, 0, 0, []),
  (36, 3, false, .invokevirtual 37, 231, 4, 0, [0, 8]), (39, 1, false, .aload_n 0, 0, 0, 0, []), (40, 3, false, .getfield 14, 0, 0, 2, [0]), (43, 2, false, .iload 5, 5, 0, 0, []),
  (45, 1, false, .iconst 2, 2, 0, 0, []), (46, 1, false, .iload_n 3, 3, 0, 0, []), (47, 3, false, .invokevirtual 37, 231, 4, 0, [0, 8]), (50, 1, false, .aload_n 0, 0, 0, 0, []),
  (51, 3, false, .getfield 14, 0, 0, 2, [0]), (54, 2, false, .iload 5, 5, 0, 0, []), (56, 1, false, .iconst 3, 3, 0, 0, []), (57, 2, false, .iload 4, 4, 0, 0, []),
  (59, 3, false, .invokevirtual 37, 231, 4, 0, [0, 8]), (62, 1, false, .aload_n 0, 0, 0, 0, []), (63, 3, false, .getfield 14, 0, 0, 2, [0]), (66, 3, false, .invokevirtual 41, 228, 1, 0, [0, 8]),
  (69, 1, false, .ireturn, 0, 0, 0, [])]
def k_Book_takeBid : List El := [(0, 1, false, .aload_n 0, 0, 0, 0, []), (1, 3, false, .getfield 20, 0, 1, 2, [0]), (4, 3, false, .invokevirtual 33, 233, 1, 0, [0, 8]), (7, 2, false, .istore 4, 4, 0, 0, []),
  (9, 2, false, .iload 4, 4, 0, 0, []), (11, 1, false, .iconst (-1), 1, 0, 1, []), (12, 3, false, .if_icmp .ne 5, 17, 0, 0, []), (15, 1, false, .iconst (-1), 1, 0, 1, []),
  (16, 1, false, .ireturn, 0, 0, 0, []), (17, 1, false, .aload_n 0, 0, 0, 0, []), (18, 3, false, .getfield 20, 0, 1, 2, [0]), (21, 2, false, .iload 4, 4, 0, 0, []),
  (23, 1, false, .iconst 0, 0, 0, 0, []), (24, 1, false, .iload_n 1, 1, 0, 0, []), (25, 3, false, .invokevirtual 37, 231, 4, 0, [0, 8]), (28, 1, false, .aload_n 0, 0, 0, 0, []),
  (29, 3, false, .getfield 20, 0, 1, 2, [0]), (32, 2, false, .iload 4, 4, 0, 0, []), (34, 1, false, .iconst 1, 1, 0, 0, []), (35, 1, false, .iload_n 2, 2, 0, 0, []),
  (36, 3, false, .invokevirtual 37, 231, 4, 0, [0, 8]), (39, 1, false, .aload_n 0, 0, 0, 0, []), (40, 3, false, .getfield 20, 0, 1, 2, [0]), (43, 2, false, .iload 4, 4, 0, 0, []),
  (45, 1, false, .iconst 2, 2, 0, 0, []), (46, 1, false, .iload_n 3, 3, 0, 0, []), (47, 3, false, .invokevirtual 37, 231, 4, 0, [0, 8]), (50, 1, false, .aload_n 0, 0, 0, 0, []),
  (51, 3, false, .getfield 20, 0, 1, 2, [0]), (54, 3, false, .invokevirtual 41, 228, 1, 0, [0, 8]), (57, 1, false, .ireturn, 0, 0, 0, [])]
def k_Book_setGauge : List El := [(0, 1, false, .aload_n 0, 0, 0, 0, []), (1, 3, false, .getfield 23, 0, 2, 2, [0]), (4, 3, false, .invokevirtual 44, 229, 1, 0, [0, 8]), (7, 3, false, .ifCond .ne 16, 23, 0, 0, []),
  (10, 1, false, .aload_n 0, 0, 0, 0, []), (11, 3, false, .getfield 23, 0, 2, 2, [0]), (14, 1, false, .iload_n 1, 1, 0, 0, []), (15, 1, false, .iload_n 2, 2, 0, 0, []),
  (16, 3, false, .invokevirtual 48, 236, 3, 0, [0, 8]), (19, 1, false, .iconst (-1), 1, 0, 1, []), (20, 3, false, .if_icmp .eq 5, 25, 0, 0, []), (23, 1, false, .iconst (-1), 1, 0, 1, []),
  (24, 1, false, .ireturn, 0, 0, 0, []), (25, 1, false, .aload_n 0, 0, 0, 0, []), (26, 3, false, .getfield 23, 0, 2, 2, [0]), (29, 3, false, .invokevirtual 33, 233, 1, 0, [0, 8]),
  (32, 2, false, .istore 4, 4, 0, 0, []), (34, 1, false, .aload_n 0, 0, 0, 0, []), (35, 3, false, .getfield 23, 0, 2, 2, [0]), (38, 2, false, .iload 4, 4, 0, 0, []),
  (40, 1, false, .iconst 0, 0, 0, 0, []), (41, 1, false, .iload_n 1, 1, 0, 0, []), (42, 3, false, .invokevirtual 37, 231, 4, 0, [0, 8]), (45, 1, false, .aload_n 0, 0, 0, 0, []),
  (46, 3, false, .getfield 23, 0, 2, 2, [0]), (49, 2, false, .iload 4, 4, 0, 0, []), (51, 1, false, .iconst 1, 1, 0, 0, []), (52, 1, false, .iload_n 2, 2, 0, 0, []),
  (53, 3, false, .invokevirtual 37, 231, 4, 0, [0, 8]), (56, 1, false, .aload_n 0, 0, 0, 0, []), (57, 3, false, .getfield 23, 0, 2, 2, [0]), (60, 2, false, .iload 4, 4, 0, 0, []),
  (62, 1, false, .iconst 2, 2, 0, 0, []), (63, 1, false, .iload_n 3, 3, 0, 0, []), (64, 3, false, .invokevirtual 37, 231, 4, 0, [0, 8]), (67, 1, false, .aload_n 0, 0, 0, 0, []),
  (68, 3, false, .getfield 23, 0, 2, 2, [0]), (71, 3, false, .invokevirtual 41, 228, 1, 0, [0, 8]), (74, 1, false, .ireturn, 0, 0, 0, [])]
def k_Book_hasGuns : List El := [(0, 1, false, .iconst 0, 0, 0, 0, []), (1, 1, false, .istore_n 3, 3, 0, 0, []), (2, 1, true, .iload_n 3, 3, 0, 0, []), (3, 1, false, .aload_n 0, 0, 0, 0, []),
  (4, 3, false, .getfield 14, 0, 0, 2, [0]), (7, 3, false, .invokevirtual 41, 228, 1, 0, [0, 8]), (10, 3, false, .if_icmp .ge 62, 72, 0, 0, []), (13, 1, false, .aload_n 0, 0, 0, 0, []),
  (14, 3, false, .getfield 14, 0, 0, 2, [0]), (17, 1, false, .iload_n 3, 3, 0, 0, []), (18, 1, false, .iconst 0, 0, 0, 0, []), (19, 3, false, .invokevirtual 52, 230, 3, 0, [0, 8]),
  (22, 1, false, .iload_n 1, 1, 0, 0, []), (23, 3, false, .if_icmp .ne 20, 43, 0, 0, []), (26, 1, false, .aload_n 0, 0, 0, 0, []), (27, 3, false, .getfield 14, 0, 0, 2, [0]),
  (30, 1, false, .iload_n 3, 3, 0, 0, []), (31, 1, false, .iconst 1, 1, 0, 0, []), (32, 3, false, .invokevirtual 52, 230, 3, 0, [0, 8]), (35, 1, false, .iload_n 2, 2, 0, 0, []),
  (36, 3, false, .if_icmp .ne 7, 43, 0, 0, []), (39, 1, false, .iconst 1, 1, 0, 0, []), (40, 3, false, .goto 4, 44, 0, 0, []), (43, 1, false, .iconst 0, 0, 0, 0, []),
  (44, 2, false, .istore 4, 4, 0, 0, []), (46, 2, false, .iload 4, 4, 0, 0, []), (48, 3, false, .ifCond .eq 18, 66, 0, 0, []), (51, 1, false, .aload_n 0, 0, 0, 0, []),
  (52, 3, false, .getfield 14, 0, 0, 2, [0]), (55, 1, false, .iload_n 3, 3, 0, 0, []), (56, 1, false, .iconst 2, 2, 0, 0, []), (57, 3, false, .invokevirtual 52, 230, 3, 0, [0, 8]),
  (60, 1, false, .iconst 2, 2, 0, 0, []), (61, 3, false, .if_icmp .ne 5, 66, 0, 0, []), (64, 1, false, .iconst 1, 1, 0, 0, []), (65, 1, false, .ireturn, 0, 0, 1, []),
  (66, 3, false, .iinc 3 1, 3, 1, 0, []), (69, 3, false, .goto (-67), 2, 0, 0, []), (72, 1, false, .iconst 0, 0, 0, 0, []), (73, 1, false, .ireturn, 0, 0, 1, [])]
def k_Day_init : List El := [(0, 1, false, .aload_n 0, 0, 0, 0, []), (1, 3, false, .invokespecial 3, 0, 0, 9, []), (4, 1, false, .aload_n 0, 0, 0, 0, []), (5, 1, false, .aload_n 1, 1, 0, 0, []),
  (6, 3, false, .putfield 9, 1, 0, 2, [0]), (9, 1, false, .aload_n 0, 0, 0, 0, []), (10, 1, false, .aload_n 2, 2, 0, 0, []), (11, 3, false, .putfield 15, 1, 1, 2, [0]),
  (14, 1, false, .aload_n 0, 0, 0, 0, []), (15, 3, false, .new 19, 2, 10, 0, []), (18, 1, false, .dup, 0, 0, 0, []), (19, 1, false, .aload_n 1, 1, 0, 0, []),
  (20, 3, false, .invokespecial 21, 155, 2, 1, [0]), (23, 3, false, .putfield 24, 1, 2, 2, [0]), (26, 1, false, .aload_n 0, 0, 0, 0, []), (27, 3, false, .new 28, 5, 1, 0, []),
  (30, 1, false, .dup, 0, 0, 0, []), (31, 2, false, .bipush 8, 8, 0, 0, []), (33, 3, false, .invokespecial 30, 181, 2, 1, [0]), (36, 3, false, .putfield 33, 1, 3, 2, [0]),
  (39, 1, false, .aload_n 0, 0, 0, 0, []), (40, 3, false, .new 37, 8, 4, 0, []), (43, 1, false, .dup, 0, 0, 0, []), (44, 2, false, .bipush 8, 8, 0, 0, []),
  (46, 2, false, .bipush 8, 8, 0, 0, []), (48, 3, false, .invokespecial 39, 227, 3, 1, [0]), (51, 3, false, .putfield 42, 1, 4, 2, [0]), (54, 1, false, .aload_n 0, 0, 0, 0, []),
  (55, 3, false, .new 28, 5, 1, 0, []), (58, 1, false, .dup, 0, 0, 0, []), (59, 2, false, .bipush 8, 8, 0, 0, []), (61, 3, false, .invokespecial 30, 181, 2, 1, [0]),
  (64, 3, false, .putfield 46, 1, 5, 2, [0]), (67, 1, false, .aload_n 0, 0, 0, 0, []), (68, 3, false, .new 28, 5, 1, 0, []), (71, 1, false, .dup, 0, 0, 0, []),
  (72, 2, false, .bipush 8, 8, 0, 0, []), (74, 3, false, .invokespecial 30, 181, 2, 1, [0]), (77, 3, false, .putfield 49, 1, 6, 2, [0]), (80, 1, false, .aload_n 0, 0, 0, 0, []),
  (81, 3, false, .new 28, 5, 1, 0, []), (84, 1, false, .dup, 0, 0, 0, []), (85, 2, false, .bipush 8, 8, 0, 0, []), (87, 3, false, .invokespecial 30, 181, 2, 1, [0]),
  (90, 3, false, .putfield 52, 1, 7, 2, [0]), (93, 1, false, .return_, 0, 0, 0, [])]
def k_Day_isThere : List El := [(0, 1, false, .aload_n 0, 0, 0, 0, []), (1, 3, false, .getfield 33, 1, 3, 2, [0]), (4, 1, false, .iload_n 1, 1, 0, 0, []), (5, 3, false, .invokevirtual 55, 182, 2, 0, [0, 5]),
  (8, 1, false, .iconst (-1), 1, 0, 1, []), (9, 3, false, .if_icmp .eq 7, 16, 0, 0, []), (12, 1, false, .iconst 1, 1, 0, 0, []), (13, 3, false, .goto 4, 17, 0, 0, []),
  (16, 1, false, .iconst 0, 0, 0, 0, []), (17, 1, false, .ireturn, 0, 0, 1, [])]
def k_Day_total : List El := [(0, 1, false, .iload_n 1, 1, 0, 0, []), (1, 43, false, .tableswitch 90 0 6 #[43, 48, 53, 61, 69, 77, 85], 91, 0, 0, [44, 49, 54, 62, 70, 78, 86]), (44, 1, false, .aload_n 0, 0, 0, 0, []), (45, 3, false, .invokevirtual 59, 139, 1, 0, [0, 1]),
  (48, 1, false, .ireturn, 0, 0, 0, []), (49, 1, false, .aload_n 0, 0, 0, 0, []), (50, 3, false, .getfield 63, 1, 9, 0, [0]), (53, 1, false, .ireturn, 0, 0, 0, []),
  (54, 1, false, .aload_n 0, 0, 0, 0, []), (55, 3, false, .getfield 24, 1, 2, 2, [0]), (58, 3, false, .getfield 67, 2, 6, 0, [1]), (61, 1, false, .ireturn, 0, 0, 0, []),
  (62, 1, false, .aload_n 0, 0, 0, 0, []), (63, 3, false, .getfield 24, 1, 2, 2, [0]), (66, 3, false, .getfield 70, 2, 7, 0, [1]), (69, 1, false, .ireturn, 0, 0, 0, []),
  (70, 1, false, .aload_n 0, 0, 0, 0, []), (71, 3, false, .getfield 24, 1, 2, 2, [0]), (74, 3, false, .getfield 73, 2, 8, 0, [1]), (77, 1, false, .ireturn, 0, 0, 0, []),
  (78, 1, false, .aload_n 0, 0, 0, 0, []), (79, 3, false, .getfield 24, 1, 2, 2, [0]), (82, 3, false, .invokevirtual 76, 157, 1, 0, [0, 2]), (85, 1, false, .ireturn, 0, 0, 0, []),
  (86, 1, false, .aload_n 0, 0, 0, 0, []), (87, 3, false, .getfield 79, 1, 10, 0, [0]), (90, 1, false, .ireturn, 0, 0, 0, []), (91, 1, false, .aload_n 0, 0, 0, 0, []),
  (92, 3, false, .getfield 24, 1, 2, 2, [0]), (95, 3, false, .getfield 82, 2, 9, 0, [1]), (98, 1, false, .ireturn, 0, 0, 0, [])]
def k_Day_inTheSky : List El := [(0, 1, false, .iconst 0, 0, 0, 0, []), (1, 1, false, .istore_n 1, 1, 0, 0, []), (2, 1, false, .iconst 0, 0, 0, 0, []), (3, 1, false, .istore_n 2, 2, 0, 0, []),
  (4, 1, true, .iload_n 2, 2, 0, 0, []), (5, 1, false, .aload_n 0, 0, 0, 0, []), (6, 3, false, .getfield 9, 1, 0, 2, [0]), (9, 3, false, .getfield 85, 6, 2, 2, [1]),
  (12, 3, false, .invokevirtual 90, 228, 1, 0, [0, 8]), (15, 3, false, .if_icmp .ge 28, 43, 0, 0, []), (18, 1, false, .aload_n 0, 0, 0, 0, []), (19, 1, false, .iload_n 2, 2, 0, 0, []),
  (20, 3, false, .invokevirtual 93, 137, 2, 0, [0, 1]), (23, 3, false, .ifCond .eq 14, 37, 0, 0, []), (26, 1, false, .iload_n 1, 1, 0, 0, []), (27, 1, false, .aload_n 0, 0, 0, 0, []),
  (28, 3, false, .getfield 42, 1, 4, 2, [0]), (31, 1, false, .iload_n 2, 2, 0, 0, []), (32, 3, false, .invokevirtual 97, 234, 2, 0, [0, 8]), (35, 1, false, .iadd, 0, 0, 0, []),
  (36, 1, false, .istore_n 1, 1, 0, 0, []), (37, 3, false, .iinc 2 1, 2, 1, 0, []), (40, 3, false, .goto (-36), 4, 0, 0, []), (43, 1, false, .iload_n 1, 1, 0, 0, []),
  (44, 1, false, .ireturn, 0, 0, 0, [])]
def k_Day_run : List El := [(0, 1, false, .aload_n 0, 0, 0, 0, []), (1, 1, false, .iload_n 1, 1, 0, 0, []), (2, 3, false, .putfield 100, 1, 8, 0, [0]), (5, 1, false, .aload_n 0, 0, 0, 0, []),
  (6, 1, false, .iconst 0, 0, 0, 0, []), (7, 3, false, .putfield 63, 1, 9, 0, [0]), (10, 1, false, .aload_n 0, 0, 0, 0, []), (11, 1, false, .iconst 0, 0, 0, 0, []),
  (12, 3, false, .putfield 79, 1, 10, 0, [0]), (15, 1, false, .aload_n 0, 0, 0, 0, []), (16, 3, false, .getfield 33, 1, 3, 2, [0]), (19, 1, false, .iconst (-1), 1, 0, 1, []),
  (20, 3, false, .invokevirtual 103, 185, 2, 0, [0, 5]), (23, 1, false, .aload_n 0, 0, 0, 0, []), (24, 3, false, .getfield 42, 1, 4, 2, [0]), (27, 3, false, .invokevirtual 106, 237, 1, 0, [0, 8]),
  (30, 1, false, .aload_n 0, 0, 0, 0, []), (31, 3, false, .getfield 24, 1, 2, 2, [0]), (34, 3, false, .invokevirtual 109, 156, 1, 0, [0, 2]), (37, 1, false, .iconst 0, 0, 0, 0, []),
  (38, 1, false, .istore_n 3, 3, 0, 0, []), (39, 1, true, .iload_n 3, 3, 0, 0, []), (40, 1, false, .iload_n 2, 2, 0, 0, []), (41, 3, false, .if_icmp .gt 88, 129, 0, 0, []),
  (44, 1, false, .iload_n 3, 3, 0, 0, []), (45, 2, false, .bipush 50, 50, 0, 0, []), (47, 3, false, .if_icmp .ge 82, 129, 0, 0, []), (50, 1, false, .aload_n 0, 0, 0, 0, []),
  (51, 1, false, .iload_n 3, 3, 0, 0, []), (52, 3, false, .invokevirtual 112, 141, 2, 0, [0, 1]), (55, 1, false, .aload_n 0, 0, 0, 0, []), (56, 1, false, .iload_n 3, 3, 0, 0, []),
  (57, 3, false, .invokevirtual 115, 142, 2, 0, [0, 1]), (60, 1, false, .aload_n 0, 0, 0, 0, []), (61, 3, false, .invokevirtual 118, 143, 1, 0, [0, 1]), (64, 1, false, .aload_n 0, 0, 0, 0, []),
  (65, 1, false, .iload_n 3, 3, 0, 0, []), (66, 3, false, .invokevirtual 121, 149, 2, 0, [0, 1]), (69, 1, false, .aload_n 0, 0, 0, 0, []), (70, 1, false, .iload_n 3, 3, 0, 0, []),
  (71, 3, false, .invokevirtual 124, 150, 2, 0, [0, 1]), (74, 1, false, .iconst 0, 0, 0, 0, []), (75, 2, false, .istore 4, 4, 0, 0, []), (77, 2, true, .iload 4, 4, 0, 0, []),
  (79, 1, false, .aload_n 0, 0, 0, 0, []), (80, 3, false, .getfield 9, 1, 0, 2, [0]), (83, 3, false, .getfield 85, 6, 2, 2, [1]), (86, 3, false, .invokevirtual 90, 228, 1, 0, [0, 8]),
  (89, 3, false, .if_icmp .ge 26, 115, 0, 0, []), (92, 1, false, .aload_n 0, 0, 0, 0, []), (93, 3, false, .getfield 24, 1, 2, 2, [0]), (96, 1, false, .aload_n 0, 0, 0, 0, []),
  (97, 3, false, .getfield 33, 1, 3, 2, [0]), (100, 2, false, .iload 4, 4, 0, 0, []), (102, 3, false, .invokevirtual 55, 182, 2, 0, [0, 5]), (105, 1, false, .iload_n 3, 3, 0, 0, []),
  (106, 3, false, .invokevirtual 127, 158, 3, 0, [0, 2]), (109, 3, false, .iinc 4 1, 4, 1, 0, []), (112, 3, false, .goto (-35), 77, 0, 0, []), (115, 1, false, .aload_n 0, 0, 0, 0, []),
  (116, 3, false, .getfield 24, 1, 2, 2, [0]), (119, 1, false, .iload_n 3, 3, 0, 0, []), (120, 3, false, .invokevirtual 130, 159, 2, 0, [0, 2]), (123, 3, false, .iinc 3 1, 3, 1, 0, []),
  (126, 3, false, .goto (-87), 39, 0, 0, []), (129, 1, false, .return_, 0, 0, 0, [])]
def k_Day_go : List El := [(0, 1, false, .iconst 0, 0, 0, 0, []), (1, 1, false, .istore_n 2, 2, 0, 0, []), (2, 1, true, .iload_n 2, 2, 0, 0, []), (3, 1, false, .aload_n 0, 0, 0, 0, []),
  (4, 3, false, .getfield 9, 1, 0, 2, [0]), (7, 3, false, .getfield 85, 6, 2, 2, [1]), (10, 3, false, .invokevirtual 90, 228, 1, 0, [0, 8]), (13, 3, false, .if_icmp .ge 62, 75, 0, 0, []),
  (16, 1, false, .aload_n 0, 0, 0, 0, []), (17, 1, false, .iload_n 2, 2, 0, 0, []), (18, 3, false, .invokevirtual 93, 137, 2, 0, [0, 1]), (21, 3, false, .ifCond .eq 48, 69, 0, 0, []),
  (24, 1, false, .aload_n 0, 0, 0, 0, []), (25, 3, false, .getfield 33, 1, 3, 2, [0]), (28, 1, false, .iload_n 2, 2, 0, 0, []), (29, 1, false, .aload_n 0, 0, 0, 0, []),
  (30, 3, false, .getfield 9, 1, 0, 2, [0]), (33, 3, false, .getfield 133, 6, 5, 2, [1]), (36, 1, false, .iload_n 2, 2, 0, 0, []), (37, 1, false, .iload_n 1, 1, 0, 0, []),
  (38, 3, false, .invokevirtual 136, 230, 3, 0, [0, 8]), (41, 3, false, .invokevirtual 139, 183, 3, 0, [0, 5]), (44, 1, false, .aload_n 0, 0, 0, 0, []), (45, 1, false, .iload_n 2, 2, 0, 0, []),
  (46, 3, false, .invokevirtual 93, 137, 2, 0, [0, 1]), (49, 3, false, .ifCond .ne 20, 69, 0, 0, []), (52, 1, false, .aload_n 0, 0, 0, 0, []), (53, 1, false, .dup, 0, 0, 0, []),
  (54, 3, false, .getfield 63, 1, 9, 0, [0]), (57, 1, false, .aload_n 0, 0, 0, 0, []), (58, 3, false, .getfield 42, 1, 4, 2, [0]), (61, 1, false, .iload_n 2, 2, 0, 0, []),
  (62, 3, false, .invokevirtual 97, 234, 2, 0, [0, 8]), (65, 1, false, .iadd, 0, 0, 0, []), (66, 3, false, .putfield 63, 1, 9, 0, [0]), (69, 3, false, .iinc 2 1, 2, 1, 0, []),
  (72, 3, false, .goto (-70), 2, 0, 0, []), (75, 1, false, .return_, 0, 0, 0, [])]
def k_Day_come : List El := [(0, 1, false, .iconst 0, 0, 0, 0, []), (1, 1, false, .istore_n 2, 2, 0, 0, []), (2, 1, true, .iload_n 2, 2, 0, 0, []), (3, 1, false, .aload_n 0, 0, 0, 0, []),
  (4, 3, false, .getfield 9, 1, 0, 2, [0]), (7, 3, false, .getfield 85, 6, 2, 2, [1]), (10, 3, false, .invokevirtual 90, 228, 1, 0, [0, 8]), (13, 3, false, .if_icmp .ge 118, 131, 0, 0, []),
  (16, 1, false, .aload_n 0, 0, 0, 0, []), (17, 3, false, .getfield 9, 1, 0, 2, [0]), (20, 3, false, .getfield 85, 6, 2, 2, [1]), (23, 1, false, .iload_n 2, 2, 0, 0, []),
  (24, 1, false, .iconst 3, 3, 0, 0, []), (25, 3, false, .invokevirtual 136, 230, 3, 0, [0, 8]), (28, 1, false, .iload_n 1, 1, 0, 0, []), (29, 3, false, .if_icmp .ne 96, 125, 0, 0, []),
  (32, 1, false, .aload_n 0, 0, 0, 0, []), (33, 3, false, .getfield 33, 1, 3, 2, [0]), (36, 1, false, .iload_n 2, 2, 0, 0, []), (37, 1, false, .aload_n 0, 0, 0, 0, []),
  (38, 3, false, .getfield 9, 1, 0, 2, [0]), (41, 3, false, .getfield 133, 6, 5, 2, [1]), (44, 1, false, .iload_n 2, 2, 0, 0, []), (45, 1, false, .iload_n 1, 1, 0, 0, []),
  (46, 3, false, .invokevirtual 136, 230, 3, 0, [0, 8]), (49, 3, false, .invokevirtual 139, 183, 3, 0, [0, 5]), (52, 1, false, .aload_n 0, 0, 0, 0, []), (53, 3, false, .getfield 42, 1, 4, 2, [0]),
  (56, 1, false, .iload_n 2, 2, 0, 0, []), (57, 1, false, .aload_n 0, 0, 0, 0, []), (58, 3, false, .getfield 9, 1, 0, 2, [0]), (61, 3, false, .getfield 85, 6, 2, 2, [1]),
  (64, 1, false, .iload_n 2, 2, 0, 0, []), (65, 1, false, .iconst 5, 5, 0, 0, []), (66, 3, false, .invokevirtual 136, 230, 3, 0, [0, 8]), (69, 1, false, .aload_n 0, 0, 0, 0, []),
  (70, 3, false, .getfield 9, 1, 0, 2, [0]), (73, 3, false, .getfield 85, 6, 2, 2, [1]), (76, 1, false, .iload_n 2, 2, 0, 0, []), (77, 1, false, .iconst 4, 4, 0, 0, []),
  (78, 3, false, .invokevirtual 136, 230, 3, 0, [0, 8]), (81, 3, false, .invokevirtual 142, 231, 4, 0, [0, 8]), (84, 1, false, .aload_n 0, 0, 0, 0, []), (85, 3, false, .getfield 46, 1, 5, 2, [0]),
  (88, 1, false, .iload_n 2, 2, 0, 0, []), (89, 1, false, .aload_n 0, 0, 0, 0, []), (90, 3, false, .getfield 9, 1, 0, 2, [0]), (93, 3, false, .getfield 85, 6, 2, 2, [1]),
  (96, 1, false, .iload_n 2, 2, 0, 0, []), (97, 1, false, .iconst 5, 5, 0, 0, []), (98, 3, false, .invokevirtual 136, 230, 3, 0, [0, 8]), (101, 3, false, .invokevirtual 139, 183, 3, 0, [0, 5]),
  (104, 1, false, .aload_n 0, 0, 0, 0, []), (105, 3, false, .getfield 49, 1, 6, 2, [0]), (108, 1, false, .iload_n 2, 2, 0, 0, []), (109, 1, false, .aload_n 0, 0, 0, 0, []),
  (110, 3, false, .getfield 9, 1, 0, 2, [0]), (113, 3, false, .getfield 85, 6, 2, 2, [1]), (116, 1, false, .iload_n 2, 2, 0, 0, []), (117, 2, false, .bipush 6, 6, 0, 0, []),
  (119, 3, false, .invokevirtual 136, 230, 3, 0, [0, 8]), (122, 3, false, .invokevirtual 139, 183, 3, 0, [0, 5]), (125, 3, false, .iinc 2 1, 2, 1, 0, []), (128, 3, false, .goto (-126), 2, 0, 0, []),
  (131, 1, false, .return_, 0, 0, 0, [])]
def k_Day_joinAll : List El := [(0, 1, false, .iconst 1, 1, 0, 0, []), (1, 1, false, .istore_n 1, 1, 0, 0, []), (2, 1, true, .iload_n 1, 1, 0, 0, []), (3, 1, false, .aload_n 0, 0, 0, 0, []),
  (4, 3, false, .getfield 9, 1, 0, 2, [0]), (7, 3, false, .getfield 85, 6, 2, 2, [1]), (10, 3, false, .invokevirtual 90, 228, 1, 0, [0, 8]), (13, 3, false, .if_icmp .ge 38, 51, 0, 0, []),
  (16, 1, false, .aload_n 0, 0, 0, 0, []), (17, 1, false, .iload_n 1, 1, 0, 0, []), (18, 3, false, .invokevirtual 93, 137, 2, 0, [0, 1]), (21, 3, false, .ifCond .eq 11, 32, 0, 0, []),
  (24, 1, false, .aload_n 0, 0, 0, 0, []), (25, 1, false, .iload_n 1, 1, 0, 0, []), (26, 3, false, .invokevirtual 145, 144, 2, 0, [0, 1]), (29, 3, false, .goto 4, 33, 0, 0, []),
  (32, 1, false, .iconst (-1), 1, 0, 1, []), (33, 1, false, .istore_n 2, 2, 0, 0, []), (34, 1, false, .iload_n 2, 2, 0, 0, []), (35, 1, false, .iconst (-1), 1, 0, 1, []),
  (36, 3, false, .if_icmp .eq 9, 45, 0, 0, []), (39, 1, false, .aload_n 0, 0, 0, 0, []), (40, 1, false, .iload_n 2, 2, 0, 0, []), (41, 1, false, .iload_n 1, 1, 0, 0, []),
  (42, 3, false, .invokevirtual 148, 145, 3, 0, [0, 1]), (45, 3, false, .iinc 1 1, 1, 1, 0, []), (48, 3, false, .goto (-46), 2, 0, 0, []), (51, 1, false, .return_, 0, 0, 0, [])]
def k_Day_firstBeside : List El := [(0, 1, false, .iconst 0, 0, 0, 0, []), (1, 1, false, .istore_n 2, 2, 0, 0, []), (2, 1, true, .iload_n 2, 2, 0, 0, []), (3, 1, false, .iload_n 1, 1, 0, 0, []),
  (4, 3, false, .if_icmp .ge 67, 71, 0, 0, []), (7, 1, false, .aload_n 0, 0, 0, 0, []), (8, 3, false, .getfield 9, 1, 0, 2, [0]), (11, 3, false, .getfield 85, 6, 2, 2, [1]),
  (14, 1, false, .iload_n 2, 2, 0, 0, []), (15, 1, false, .iconst 2, 2, 0, 0, []), (16, 3, false, .invokevirtual 136, 230, 3, 0, [0, 8]), (19, 1, false, .aload_n 0, 0, 0, 0, []),
  (20, 3, false, .getfield 9, 1, 0, 2, [0]), (23, 3, false, .getfield 85, 6, 2, 2, [1]), (26, 1, false, .iload_n 1, 1, 0, 0, []), (27, 1, false, .iconst 2, 2, 0, 0, []),
  (28, 3, false, .invokevirtual 136, 230, 3, 0, [0, 8]), (31, 3, false, .if_icmp .ne 7, 38, 0, 0, []), (34, 1, false, .iconst 1, 1, 0, 0, []), (35, 3, false, .goto 4, 39, 0, 0, []),
  (38, 1, false, .iconst 0, 0, 0, 0, []), (39, 1, false, .istore_n 3, 3, 0, 0, []), (40, 1, false, .iload_n 3, 3, 0, 0, []), (41, 3, false, .ifCond .eq 24, 65, 0, 0, []),
  (44, 1, false, .aload_n 0, 0, 0, 0, []), (45, 3, false, .getfield 33, 1, 3, 2, [0]), (48, 1, false, .iload_n 2, 2, 0, 0, []), (49, 3, false, .invokevirtual 55, 182, 2, 0, [0, 5]),
  (52, 1, false, .aload_n 0, 0, 0, 0, []), (53, 3, false, .getfield 33, 1, 3, 2, [0]), (56, 1, false, .iload_n 1, 1, 0, 0, []), (57, 3, false, .invokevirtual 55, 182, 2, 0, [0, 5]),
  (60, 3, false, .if_icmp .ne 5, 65, 0, 0, []), (63, 1, false, .iload_n 2, 2, 0, 0, []), (64, 1, false, .ireturn, 0, 0, 0, []), (65, 3, false, .iinc 2 1, 2, 1, 0, []),
  (68, 3, false, .goto (-66), 2, 0, 0, []), (71, 1, false, .iconst (-1), 1, 0, 1, []), (72, 1, false, .ireturn, 0, 0, 0, [])]
def k_Day_join : List El := [(0, 1, false, .aload_n 0, 0, 0, 0, []), (1, 3, false, .getfield 9, 1, 0, 2, [0]), (4, 1, false, .iconst 5, 5, 0, 0, []), (5, 3, false, .invokevirtual 151, 190, 2, 0, [0, 6]),
  (8, 1, false, .istore_n 3, 3, 0, 0, []), (9, 1, false, .iload_n 3, 3, 0, 0, []), (10, 3, false, .ifCond .ne 12, 22, 0, 0, []), (13, 1, false, .aload_n 0, 0, 0, 0, []),
  (14, 1, false, .iload_n 1, 1, 0, 0, []), (15, 1, false, .iload_n 2, 2, 0, 0, []), (16, 3, false, .invokevirtual 154, 147, 3, 0, [0, 1]), (19, 3, false, .goto 9, 28, 0, 0, []),
  (22, 1, false, .aload_n 0, 0, 0, 0, []), (23, 1, false, .iload_n 1, 1, 0, 0, []), (24, 1, false, .iload_n 2, 2, 0, 0, []), (25, 3, false, .invokevirtual 157, 148, 3, 0, [0, 1]),
  (28, 2, false, .istore 4, 4, 0, 0, []), (30, 1, false, .iconst 0, 0, 0, 0, []), (31, 2, false, .istore 5, 5, 0, 0, []), (33, 2, true, .iload 5, 5, 0, 0, []),
  (35, 2, false, .bipush 8, 8, 0, 0, []), (37, 3, false, .if_icmp .ge 29, 66, 0, 0, []), (40, 1, false, .aload_n 0, 0, 0, 0, []), (41, 3, false, .getfield 42, 1, 4, 2, [0]),
  (44, 1, false, .iload_n 1, 1, 0, 0, []), (45, 2, false, .iload 5, 5, 0, 0, []), (47, 1, false, .aload_n 0, 0, 0, 0, []), (48, 3, false, .getfield 42, 1, 4, 2, [0]),
  (51, 1, false, .iload_n 2, 2, 0, 0, []), (52, 2, false, .iload 5, 5, 0, 0, []), (54, 3, false, .invokevirtual 136, 230, 3, 0, [0, 8]), (57, 3, false, .invokevirtual 160, 232, 4, 0, [0, 8]),
  (60, 3, false, .iinc 5 1, 5, 1, 0, []), (63, 3, false, .goto (-30), 33, 0, 0, []), (66, 1, false, .iload_n 3, 3, 0, 0, []), (67, 1, false, .iconst 2, 2, 0, 0, []),
  (68, 3, false, .if_icmp .eq 10, 78, 0, 0, []), (71, 1, false, .aload_n 0, 0, 0, 0, []), (72, 1, false, .iload_n 1, 1, 0, 0, []), (73, 2, false, .iload 4, 4, 0, 0, []),
  (75, 3, false, .invokevirtual 163, 146, 3, 0, [0, 1]), (78, 1, false, .aload_n 0, 0, 0, 0, []), (79, 3, false, .getfield 42, 1, 4, 2, [0]), (82, 1, false, .iload_n 2, 2, 0, 0, []),
  (83, 3, false, .invokevirtual 166, 238, 2, 0, [0, 8]), (86, 1, false, .aload_n 0, 0, 0, 0, []), (87, 3, false, .getfield 33, 1, 3, 2, [0]), (90, 1, false, .iload_n 2, 2, 0, 0, []),
  (91, 1, false, .iconst (-1), 1, 0, 1, []), (92, 3, false, .invokevirtual 139, 183, 3, 0, [0, 5]), (95, 1, false, .aload_n 0, 0, 0, 0, []), (96, 1, false, .dup, 0, 0, 0, []),
  (97, 3, false, .getfield 79, 1, 10, 0, [0]), (100, 1, false, .iconst 1, 1, 0, 0, []), (101, 1, false, .iadd, 0, 0, 0, []), (102, 3, false, .putfield 79, 1, 10, 0, [0]),
  (105, 1, false, .return_, 0, 0, 0, [])]
def k_Day_giveAll : List El := [(0, 1, false, .aload_n 0, 0, 0, 0, []), (1, 3, false, .getfield 46, 1, 5, 2, [0]), (4, 1, false, .iload_n 2, 2, 0, 0, []), (5, 3, false, .invokevirtual 55, 182, 2, 0, [0, 5]),
  (8, 1, false, .istore_n 3, 3, 0, 0, []), (9, 1, false, .aload_n 0, 0, 0, 0, []), (10, 3, false, .getfield 42, 1, 4, 2, [0]), (13, 1, false, .iload_n 1, 1, 0, 0, []),
  (14, 3, false, .invokevirtual 97, 234, 2, 0, [0, 8]), (17, 2, false, .istore 4, 4, 0, 0, []), (19, 1, false, .aload_n 0, 0, 0, 0, []), (20, 3, false, .getfield 42, 1, 4, 2, [0]),
  (23, 1, false, .iload_n 1, 1, 0, 0, []), (24, 3, false, .invokevirtual 166, 238, 2, 0, [0, 8]), (27, 1, false, .aload_n 0, 0, 0, 0, []), (28, 3, false, .getfield 42, 1, 4, 2, [0]),
  (31, 1, false, .iload_n 1, 1, 0, 0, []), (32, 1, false, .iload_n 3, 3, 0, 0, []), (33, 2, false, .iload 4, 4, 0, 0, []), (35, 3, false, .invokevirtual 142, 231, 4, 0, [0, 8]),
  (38, 1, false, .aload_n 0, 0, 0, 0, []), (39, 3, false, .getfield 46, 1, 5, 2, [0]), (42, 1, false, .iload_n 1, 1, 0, 0, []), (43, 1, false, .iload_n 3, 3, 0, 0, []),
  (44, 3, false, .invokevirtual 139, 183, 3, 0, [0, 5]), (47, 1, false, .aload_n 0, 0, 0, 0, []), (48, 3, false, .getfield 49, 1, 6, 2, [0]), (51, 1, false, .iload_n 1, 1, 0, 0, []),
  (52, 1, false, .aload_n 0, 0, 0, 0, []), (53, 3, false, .getfield 49, 1, 6, 2, [0]), (56, 1, false, .iload_n 2, 2, 0, 0, []), (57, 3, false, .invokevirtual 55, 182, 2, 0, [0, 5]),
  (60, 3, false, .invokevirtual 139, 183, 3, 0, [0, 5]), (63, 1, false, .return_, 0, 0, 0, [])]
def k_Day_earlier : List El := [(0, 1, false, .aload_n 0, 0, 0, 0, []), (1, 3, false, .getfield 49, 1, 6, 2, [0]), (4, 1, false, .iload_n 2, 2, 0, 0, []), (5, 3, false, .invokevirtual 55, 182, 2, 0, [0, 5]),
  (8, 1, false, .aload_n 0, 0, 0, 0, []), (9, 3, false, .getfield 49, 1, 6, 2, [0]), (12, 1, false, .iload_n 1, 1, 0, 0, []), (13, 3, false, .invokevirtual 55, 182, 2, 0, [0, 5]),
  (16, 3, false, .if_icmp .ge 7, 23, 0, 0, []), (19, 1, false, .iload_n 2, 2, 0, 0, []), (20, 3, false, .goto 4, 24, 0, 0, []), (23, 1, false, .iload_n 1, 1, 0, 0, []),
  (24, 1, false, .ireturn, 0, 0, 0, [])]
def k_Day_fuller : List El := [(0, 1, false, .aload_n 0, 0, 0, 0, []), (1, 3, false, .getfield 42, 1, 4, 2, [0]), (4, 1, false, .iload_n 2, 2, 0, 0, []), (5, 3, false, .invokevirtual 97, 234, 2, 0, [0, 8]),
  (8, 1, false, .aload_n 0, 0, 0, 0, []), (9, 3, false, .getfield 42, 1, 4, 2, [0]), (12, 1, false, .iload_n 1, 1, 0, 0, []), (13, 3, false, .invokevirtual 97, 234, 2, 0, [0, 8]),
  (16, 3, false, .if_icmp .le 7, 23, 0, 0, []), (19, 1, false, .iload_n 2, 2, 0, 0, []), (20, 3, false, .goto 4, 24, 0, 0, []), (23, 1, false, .iload_n 1, 1, 0, 0, []),
  (24, 1, false, .ireturn, 0, 0, 0, [])]
def k_Day_spill : List El := [(0, 1, false, .iconst 0, 0, 0, 0, []), (1, 1, false, .istore_n 2, 2, 0, 0, []), (2, 1, true, .iload_n 2, 2, 0, 0, []), (3, 1, false, .aload_n 0, 0, 0, 0, []),
  (4, 3, false, .getfield 9, 1, 0, 2, [0]), (7, 3, false, .getfield 85, 6, 2, 2, [1]), (10, 3, false, .invokevirtual 90, 228, 1, 0, [0, 8]), (13, 3, false, .if_icmp .ge 58, 71, 0, 0, []),
  (16, 1, false, .aload_n 0, 0, 0, 0, []), (17, 1, false, .iload_n 2, 2, 0, 0, []), (18, 3, false, .invokevirtual 93, 137, 2, 0, [0, 1]), (21, 3, false, .ifCond .eq 44, 65, 0, 0, []),
  (24, 1, false, .aload_n 0, 0, 0, 0, []), (25, 3, false, .getfield 42, 1, 4, 2, [0]), (28, 1, false, .iload_n 2, 2, 0, 0, []), (29, 3, false, .invokevirtual 97, 234, 2, 0, [0, 8]),
  (32, 1, false, .aload_n 0, 0, 0, 0, []), (33, 3, false, .getfield 9, 1, 0, 2, [0]), (36, 2, false, .bipush 7, 7, 0, 0, []), (38, 3, false, .invokevirtual 151, 190, 2, 0, [0, 6]),
  (41, 1, false, .isub, 0, 0, 0, []), (42, 1, false, .istore_n 3, 3, 0, 0, []), (43, 1, false, .iload_n 3, 3, 0, 0, []), (44, 3, false, .ifCond .le 21, 65, 0, 0, []),
  (47, 1, false, .aload_n 0, 0, 0, 0, []), (48, 3, false, .getfield 15, 1, 1, 2, [0]), (51, 1, false, .iload_n 1, 1, 0, 0, []), (52, 1, false, .iload_n 2, 2, 0, 0, []),
  (53, 3, false, .invokevirtual 169, 135, 3, 0, [0, 0]), (56, 3, false, .ifCond .ne 9, 65, 0, 0, []), (59, 1, false, .aload_n 0, 0, 0, 0, []), (60, 1, false, .iload_n 2, 2, 0, 0, []),
  (61, 1, false, .iload_n 3, 3, 0, 0, []), (62, 3, false, .invokevirtual 175, 153, 3, 0, [0, 1]), (65, 3, false, .iinc 2 1, 2, 1, 0, []), (68, 3, false, .goto (-66), 2, 0, 0, []),
  (71, 1, false, .return_, 0, 0, 0, [])]
def k_Day_obey : List El := [(0, 1, false, .aload_n 0, 0, 0, 0, []), (1, 3, false, .getfield 52, 1, 7, 2, [0]), (4, 1, false, .iconst 0, 0, 0, 0, []), (5, 3, false, .invokevirtual 103, 185, 2, 0, [0, 5]),
  (8, 1, false, .iconst 0, 0, 0, 0, []), (9, 1, false, .istore_n 2, 2, 0, 0, []), (10, 1, true, .iload_n 2, 2, 0, 0, []), (11, 1, false, .aload_n 0, 0, 0, 0, []),
  (12, 3, false, .getfield 15, 1, 1, 2, [0]), (15, 3, false, .getfield 178, 0, 0, 2, [1]), (18, 3, false, .invokevirtual 90, 228, 1, 0, [0, 8]), (21, 3, false, .if_icmp .ge 133, 154, 0, 0, []),
  (24, 1, false, .aload_n 0, 0, 0, 0, []), (25, 3, false, .getfield 15, 1, 1, 2, [0]), (28, 3, false, .getfield 178, 0, 0, 2, [1]), (31, 1, false, .iload_n 2, 2, 0, 0, []),
  (32, 1, false, .iconst 1, 1, 0, 0, []), (33, 3, false, .invokevirtual 136, 230, 3, 0, [0, 8]), (36, 1, false, .istore_n 3, 3, 0, 0, []), (37, 1, false, .aload_n 0, 0, 0, 0, []),
  (38, 3, false, .getfield 15, 1, 1, 2, [0]), (41, 3, false, .getfield 178, 0, 0, 2, [1]), (44, 1, false, .iload_n 2, 2, 0, 0, []), (45, 1, false, .iconst 0, 0, 0, 0, []),
  (46, 3, false, .invokevirtual 136, 230, 3, 0, [0, 8]), (49, 1, false, .iload_n 1, 1, 0, 0, []), (50, 3, false, .if_icmp .ne 98, 148, 0, 0, []), (53, 1, false, .aload_n 0, 0, 0, 0, []),
  (54, 1, false, .iload_n 3, 3, 0, 0, []), (55, 3, false, .invokevirtual 93, 137, 2, 0, [0, 1]), (58, 3, false, .ifCond .eq 90, 148, 0, 0, []), (61, 1, false, .aload_n 0, 0, 0, 0, []),
  (62, 1, false, .aload_n 0, 0, 0, 0, []), (63, 3, false, .getfield 15, 1, 1, 2, [0]), (66, 3, false, .getfield 178, 0, 0, 2, [1]), (69, 1, false, .iload_n 2, 2, 0, 0, []),
  (70, 1, false, .iconst 2, 2, 0, 0, []), (71, 3, false, .invokevirtual 136, 230, 3, 0, [0, 8]), (74, 1, false, .aload_n 0, 0, 0, 0, []), (75, 3, false, .getfield 15, 1, 1, 2, [0]),
  (78, 3, false, .getfield 178, 0, 0, 2, [1]), (81, 1, false, .iload_n 2, 2, 0, 0, []), (82, 1, false, .iconst 3, 3, 0, 0, []), (83, 3, false, .invokevirtual 136, 230, 3, 0, [0, 8]),
  (86, 3, false, .invokevirtual 181, 151, 3, 0, [0, 1]), (89, 2, false, .istore 4, 4, 0, 0, []), (91, 1, false, .aload_n 0, 0, 0, 0, []), (92, 3, false, .getfield 9, 1, 0, 2, [0]),
  (95, 2, false, .bipush 6, 6, 0, 0, []), (97, 3, false, .invokevirtual 151, 190, 2, 0, [0, 6]), (100, 1, false, .aload_n 0, 0, 0, 0, []), (101, 3, false, .getfield 52, 1, 7, 2, [0]),
  (104, 1, false, .iload_n 3, 3, 0, 0, []), (105, 3, false, .invokevirtual 55, 182, 2, 0, [0, 5]), (108, 1, false, .isub, 0, 0, 0, []), (109, 1, false, .aload_n 0, 0, 0, 0, []),
  (110, 3, false, .getfield 42, 1, 4, 2, [0]), (113, 1, false, .iload_n 3, 3, 0, 0, []), (114, 3, false, .invokevirtual 97, 234, 2, 0, [0, 8]), (117, 3, false, .invokestatic 184, 0, 0, 4, []),
  (120, 2, false, .istore 5, 5, 0, 0, []), (122, 2, false, .iload 4, 4, 0, 0, []), (124, 2, false, .iload 5, 5, 0, 0, []), (126, 3, false, .invokestatic 184, 0, 0, 4, []),
  (129, 2, false, .istore 6, 6, 0, 0, []), (131, 1, false, .aload_n 0, 0, 0, 0, []), (132, 1, false, .iload_n 3, 3, 0, 0, []), (133, 2, false, .iload 6, 6, 0, 0, []),
  (135, 3, false, .invokevirtual 175, 153, 3, 0, [0, 1]), (138, 1, false, .aload_n 0, 0, 0, 0, []), (139, 3, false, .getfield 52, 1, 7, 2, [0]), (142, 1, false, .iload_n 3, 3, 0, 0, []),
  (143, 2, false, .iload 6, 6, 0, 0, []), (145, 3, false, .invokevirtual 189, 184, 3, 0, [0, 5]), (148, 3, false, .iinc 2 1, 2, 1, 0, []), (151, 3, false, .goto (-141), 10, 0, 0, []),
  (154, 1, false, .return_, 0, 0, 0, [])]
def k_Day_wantedBy : List El := [(0, 1, false, .iload_n 1, 1, 0, 0, []), (1, 27, false, .lookupswitch 51 #[(0, 27), (1, 29)], 52, 0, 0, [0, 28, 1, 30]), (28, 1, false, .iload_n 2, 2, 0, 0, []), (29, 1, false, .ireturn, 0, 0, 0, []),
  (30, 1, false, .aload_n 0, 0, 0, 0, []), (31, 3, false, .invokevirtual 191, 152, 1, 0, [0, 1]), (34, 1, false, .iload_n 2, 2, 0, 0, []), (35, 3, false, .if_icmp .ge 15, 50, 0, 0, []),
  (38, 1, false, .aload_n 0, 0, 0, 0, []), (39, 3, false, .getfield 9, 1, 0, 2, [0]), (42, 2, false, .bipush 6, 6, 0, 0, []), (44, 3, false, .invokevirtual 151, 190, 2, 0, [0, 6]),
  (47, 3, false, .goto 4, 51, 0, 0, []), (50, 1, false, .iconst 0, 0, 0, 0, []), (51, 1, false, .ireturn, 0, 0, 0, []), (52, 1, false, .iconst 0, 0, 0, 0, []),
  (53, 1, false, .ireturn, 0, 0, 0, [])]
def k_Day_draw : List El := [(0, 1, false, .aload_n 0, 0, 0, 0, []), (1, 1, false, .aload_n 0, 0, 0, 0, []), (2, 3, false, .getfield 100, 1, 8, 0, [0]), (5, 2, false, .ldc 194, 1103515245, 0, 0, []),
  (7, 1, false, .imul, 0, 0, 0, []), (8, 3, false, .sipush 12345, 12345, 0, 0, []), (11, 1, false, .iadd, 0, 0, 0, []), (12, 3, false, .putfield 100, 1, 8, 0, [0]),
  (15, 1, false, .aload_n 0, 0, 0, 0, []), (16, 3, false, .getfield 100, 1, 8, 0, [0]), (19, 2, false, .bipush 16, 16, 0, 0, []), (21, 1, false, .iushr, 0, 0, 0, []),
  (22, 2, false, .bipush 7, 7, 0, 0, []), (24, 1, false, .iand, 0, 0, 0, []), (25, 1, false, .ireturn, 0, 0, 0, [])]
def k_Day_letFall : List El := [(0, 1, false, .aload_n 0, 0, 0, 0, []), (1, 3, false, .getfield 42, 1, 4, 2, [0]), (4, 1, false, .iload_n 1, 1, 0, 0, []), (5, 3, false, .invokevirtual 97, 234, 2, 0, [0, 8]),
  (8, 1, false, .istore_n 3, 3, 0, 0, []), (9, 1, false, .iload_n 2, 2, 0, 0, []), (10, 3, false, .ifCond .le 7, 17, 0, 0, []), (13, 1, false, .iload_n 3, 3, 0, 0, []),
  (14, 3, false, .ifCond .gt 4, 18, 0, 0, []), (17, 1, false, .return_, 0, 0, 0, []), (18, 1, false, .iload_n 2, 2, 0, 0, []), (19, 2, false, .istore 4, 4, 0, 0, []),
  (21, 1, false, .iconst 0, 0, 0, 0, []), (22, 2, false, .istore 5, 5, 0, 0, []), (24, 2, true, .iload 5, 5, 0, 0, []), (26, 2, false, .bipush 8, 8, 0, 0, []),
  (28, 3, false, .if_icmp .ge 41, 69, 0, 0, []), (31, 1, false, .iload_n 2, 2, 0, 0, []), (32, 1, false, .aload_n 0, 0, 0, 0, []), (33, 3, false, .getfield 42, 1, 4, 2, [0]),
  (36, 1, false, .iload_n 1, 1, 0, 0, []), (37, 2, false, .iload 5, 5, 0, 0, []), (39, 3, false, .invokevirtual 136, 230, 3, 0, [0, 8]), (42, 1, false, .imul, 0, 0, 0, []),
  (43, 1, false, .iload_n 3, 3, 0, 0, []), (44, 1, false, .idiv, 0, 0, 0, []), (45, 2, false, .istore 6, 6, 0, 0, []), (47, 1, false, .aload_n 0, 0, 0, 0, []),
  (48, 1, false, .iload_n 1, 1, 0, 0, []), (49, 2, false, .iload 5, 5, 0, 0, []), (51, 2, false, .iload 6, 6, 0, 0, []), (53, 3, false, .invokevirtual 195, 154, 4, 0, [0, 1]),
  (56, 2, false, .iload 4, 4, 0, 0, []), (58, 2, false, .iload 6, 6, 0, 0, []), (60, 1, false, .isub, 0, 0, 0, []), (61, 2, false, .istore 4, 4, 0, 0, []),
  (63, 3, false, .iinc 5 1, 5, 1, 0, []), (66, 3, false, .goto (-42), 24, 0, 0, []), (69, 1, false, .iconst 0, 0, 0, 0, []), (70, 2, false, .istore 5, 5, 0, 0, []),
  (72, 2, true, .iload 5, 5, 0, 0, []), (74, 2, false, .bipush 64, 64, 0, 0, []), (76, 3, false, .if_icmp .ge 45, 121, 0, 0, []), (79, 2, false, .iload 4, 4, 0, 0, []),
  (81, 3, false, .ifCond .le 40, 121, 0, 0, []), (84, 2, false, .iload 5, 5, 0, 0, []), (86, 2, false, .bipush 8, 8, 0, 0, []), (88, 1, false, .irem, 0, 0, 0, []),
  (89, 2, false, .istore 6, 6, 0, 0, []), (91, 1, false, .aload_n 0, 0, 0, 0, []), (92, 3, false, .getfield 42, 1, 4, 2, [0]), (95, 1, false, .iload_n 1, 1, 0, 0, []),
  (96, 2, false, .iload 6, 6, 0, 0, []), (98, 3, false, .invokevirtual 136, 230, 3, 0, [0, 8]), (101, 3, false, .ifCond .le 14, 115, 0, 0, []), (104, 1, false, .aload_n 0, 0, 0, 0, []),
  (105, 1, false, .iload_n 1, 1, 0, 0, []), (106, 2, false, .iload 6, 6, 0, 0, []), (108, 1, false, .iconst 1, 1, 0, 0, []), (109, 3, false, .invokevirtual 195, 154, 4, 0, [0, 1]),
  (112, 3, false, .iinc 4 (-1), 4, 1, 1, []), (115, 3, false, .iinc 5 1, 5, 1, 0, []), (118, 3, false, .goto (-46), 72, 0, 0, []), (121, 1, false, .return_, 0, 0, 0, [])]
def k_Day_dropFrom : List El := [(0, 1, false, .aload_n 0, 0, 0, 0, []), (1, 3, false, .getfield 42, 1, 4, 2, [0]), (4, 1, false, .iload_n 1, 1, 0, 0, []), (5, 1, false, .iload_n 2, 2, 0, 0, []),
  (6, 1, false, .iload_n 3, 3, 0, 0, []), (7, 1, false, .ineg, 0, 0, 0, []), (8, 3, false, .invokevirtual 160, 232, 4, 0, [0, 8]), (11, 1, false, .aload_n 0, 0, 0, 0, []),
  (12, 3, false, .getfield 24, 1, 2, 2, [0]), (15, 3, false, .getfield 198, 2, 1, 2, [1]), (18, 1, false, .aload_n 0, 0, 0, 0, []), (19, 3, false, .getfield 33, 1, 3, 2, [0]),
  (22, 1, false, .iload_n 1, 1, 0, 0, []), (23, 3, false, .invokevirtual 55, 182, 2, 0, [0, 5]), (26, 1, false, .iload_n 2, 2, 0, 0, []), (27, 1, false, .iload_n 3, 3, 0, 0, []),
  (28, 3, false, .invokevirtual 160, 232, 4, 0, [0, 8]), (31, 1, false, .return_, 0, 0, 0, [])]
def k_Ground_init : List El := [(0, 1, false, .aload_n 0, 0, 0, 0, []), (1, 3, false, .invokespecial 3, 0, 0, 9, []), (4, 1, false, .aload_n 0, 0, 0, 0, []), (5, 1, false, .aload_n 1, 1, 0, 0, []),
  (6, 3, false, .putfield 9, 2, 0, 2, [0]), (9, 1, false, .aload_n 0, 0, 0, 0, []), (10, 3, false, .new 15, 8, 4, 0, []), (13, 1, false, .dup, 0, 0, 0, []),
  (14, 2, false, .bipush 64, 64, 0, 0, []), (16, 2, false, .bipush 8, 8, 0, 0, []), (18, 3, false, .invokespecial 17, 227, 3, 1, [0]), (21, 3, false, .putfield 20, 2, 1, 2, [0]),
  (24, 1, false, .aload_n 0, 0, 0, 0, []), (25, 3, false, .new 15, 8, 4, 0, []), (28, 1, false, .dup, 0, 0, 0, []), (29, 1, false, .iconst 3, 3, 0, 0, []),
  (30, 2, false, .bipush 8, 8, 0, 0, []), (32, 3, false, .invokespecial 17, 227, 3, 1, [0]), (35, 3, false, .putfield 24, 2, 2, 2, [0]), (38, 1, false, .aload_n 0, 0, 0, 0, []),
  (39, 3, false, .new 15, 8, 4, 0, []), (42, 1, false, .dup, 0, 0, 0, []), (43, 2, false, .bipush 8, 8, 0, 0, []), (45, 1, false, .iconst 3, 3, 0, 0, []),
  (46, 3, false, .invokespecial 17, 227, 3, 1, [0]), (49, 3, false, .putfield 27, 2, 3, 2, [0]), (52, 1, false, .aload_n 0, 0, 0, 0, []), (53, 3, false, .new 15, 8, 4, 0, []),
  (56, 1, false, .dup, 0, 0, 0, []), (57, 2, false, .bipush 7, 7, 0, 0, []), (59, 1, false, .iconst 2, 2, 0, 0, []), (60, 3, false, .invokespecial 17, 227, 3, 1, [0]),
  (63, 3, false, .putfield 30, 2, 4, 2, [0]), (66, 1, false, .aload_n 0, 0, 0, 0, []), (67, 3, false, .new 15, 8, 4, 0, []), (70, 1, false, .dup, 0, 0, 0, []),
  (71, 2, false, .bipush 12, 12, 0, 0, []), (73, 1, false, .iconst 3, 3, 0, 0, []), (74, 3, false, .invokespecial 17, 227, 3, 1, [0]), (77, 3, false, .putfield 33, 2, 5, 2, [0]),
  (80, 1, false, .return_, 0, 0, 0, [])]
def k_Ground_wipe : List El := [(0, 1, false, .aload_n 0, 0, 0, 0, []), (1, 3, false, .getfield 20, 2, 1, 2, [0]), (4, 3, false, .invokevirtual 36, 237, 1, 0, [0, 8]), (7, 1, false, .aload_n 0, 0, 0, 0, []),
  (8, 3, false, .getfield 24, 2, 2, 2, [0]), (11, 3, false, .invokevirtual 36, 237, 1, 0, [0, 8]), (14, 1, false, .aload_n 0, 0, 0, 0, []), (15, 3, false, .getfield 27, 2, 3, 2, [0]),
  (18, 3, false, .invokevirtual 36, 237, 1, 0, [0, 8]), (21, 1, false, .aload_n 0, 0, 0, 0, []), (22, 3, false, .getfield 30, 2, 4, 2, [0]), (25, 3, false, .invokevirtual 36, 237, 1, 0, [0, 8]),
  (28, 1, false, .iconst 0, 0, 0, 0, []), (29, 1, false, .istore_n 1, 1, 0, 0, []), (30, 1, true, .iload_n 1, 1, 0, 0, []), (31, 2, false, .bipush 12, 12, 0, 0, []),
  (33, 3, false, .if_icmp .ge 50, 83, 0, 0, []), (36, 1, false, .aload_n 0, 0, 0, 0, []), (37, 3, false, .getfield 33, 2, 5, 2, [0]), (40, 1, false, .iload_n 1, 1, 0, 0, []),
  (41, 1, false, .iconst 0, 0, 0, 0, []), (42, 1, false, .aload_n 0, 0, 0, 0, []), (43, 3, false, .getfield 9, 2, 0, 2, [0]), (46, 3, false, .getfield 39, 6, 3, 2, [1]),
  (49, 1, false, .iload_n 1, 1, 0, 0, []), (50, 1, false, .iconst 3, 3, 0, 0, []), (51, 3, false, .invokevirtual 42, 230, 3, 0, [0, 8]), (54, 3, false, .invokevirtual 46, 231, 4, 0, [0, 8]),
  (57, 1, false, .aload_n 0, 0, 0, 0, []), (58, 3, false, .getfield 33, 2, 5, 2, [0]), (61, 1, false, .iload_n 1, 1, 0, 0, []), (62, 1, false, .iconst 1, 1, 0, 0, []),
  (63, 1, false, .iconst 0, 0, 0, 0, []), (64, 3, false, .invokevirtual 46, 231, 4, 0, [0, 8]), (67, 1, false, .aload_n 0, 0, 0, 0, []), (68, 3, false, .getfield 33, 2, 5, 2, [0]),
  (71, 1, false, .iload_n 1, 1, 0, 0, []), (72, 1, false, .iconst 2, 2, 0, 0, []), (73, 1, false, .iconst (-1), 1, 0, 1, []), (74, 3, false, .invokevirtual 46, 231, 4, 0, [0, 8]),
  (77, 3, false, .iinc 1 1, 1, 1, 0, []), (80, 3, false, .goto (-50), 30, 0, 0, []), (83, 1, false, .aload_n 0, 0, 0, 0, []), (84, 1, false, .iconst 0, 0, 0, 0, []),
  (85, 3, false, .putfield 50, 2, 6, 0, [0]), (88, 1, false, .aload_n 0, 0, 0, 0, []), (89, 1, false, .iconst 0, 0, 0, 0, []), (90, 3, false, .putfield 54, 2, 7, 0, [0]),
  (93, 1, false, .aload_n 0, 0, 0, 0, []), (94, 1, false, .iconst 0, 0, 0, 0, []), (95, 3, false, .putfield 57, 2, 8, 0, [0]), (98, 1, false, .aload_n 0, 0, 0, 0, []),
  (99, 1, false, .iconst 0, 0, 0, 0, []), (100, 3, false, .putfield 60, 2, 9, 0, [0]), (103, 1, false, .return_, 0, 0, 0, [])]
def k_Ground_keptByGlaciers : List El := [(0, 1, false, .iconst 0, 0, 0, 0, []), (1, 1, false, .istore_n 1, 1, 0, 0, []), (2, 1, false, .iconst 0, 0, 0, 0, []), (3, 1, false, .istore_n 2, 2, 0, 0, []),
  (4, 1, true, .iload_n 2, 2, 0, 0, []), (5, 1, false, .aload_n 0, 0, 0, 0, []), (6, 3, false, .getfield 9, 2, 0, 2, [0]), (9, 3, false, .getfield 63, 6, 4, 2, [1]),
  (12, 3, false, .invokevirtual 66, 228, 1, 0, [0, 8]), (15, 3, false, .if_icmp .ge 20, 35, 0, 0, []), (18, 1, false, .iload_n 1, 1, 0, 0, []), (19, 1, false, .aload_n 0, 0, 0, 0, []),
  (20, 3, false, .getfield 24, 2, 2, 2, [0]), (23, 1, false, .iload_n 2, 2, 0, 0, []), (24, 3, false, .invokevirtual 70, 234, 2, 0, [0, 8]), (27, 1, false, .iadd, 0, 0, 0, []),
  (28, 1, false, .istore_n 1, 1, 0, 0, []), (29, 3, false, .iinc 2 1, 2, 1, 0, []), (32, 3, false, .goto (-28), 4, 0, 0, []), (35, 1, false, .iload_n 1, 1, 0, 0, []),
  (36, 1, false, .ireturn, 0, 0, 0, [])]
def k_Ground_takeRain : List El := [(0, 1, false, .iload_n 1, 1, 0, 0, []), (1, 1, false, .iconst (-1), 1, 0, 1, []), (2, 3, false, .if_icmp .eq 14, 16, 0, 0, []), (5, 1, false, .aload_n 0, 0, 0, 0, []),
  (6, 3, false, .getfield 20, 2, 1, 2, [0]), (9, 1, false, .iload_n 1, 1, 0, 0, []), (10, 3, false, .invokevirtual 70, 234, 2, 0, [0, 8]), (13, 3, false, .ifCond .ne 4, 17, 0, 0, []),
  (16, 1, false, .return_, 0, 0, 0, []), (17, 1, false, .aload_n 0, 0, 0, 0, []), (18, 3, false, .getfield 9, 2, 0, 2, [0]), (21, 1, false, .iload_n 1, 1, 0, 0, []),
  (22, 3, false, .invokevirtual 74, 192, 2, 0, [0, 6]), (25, 1, false, .istore_n 3, 3, 0, 0, []), (26, 1, false, .iload_n 3, 3, 0, 0, []), (27, 1, false, .iconst (-1), 1, 0, 1, []),
  (28, 3, false, .if_icmp .eq 20, 48, 0, 0, []), (31, 1, false, .aload_n 0, 0, 0, 0, []), (32, 1, false, .iload_n 1, 1, 0, 0, []), (33, 1, false, .iload_n 2, 2, 0, 0, []),
  (34, 3, false, .invokevirtual 77, 160, 3, 0, [0, 2]), (37, 1, false, .iconst (-1), 1, 0, 1, []), (38, 3, false, .if_icmp .ne 10, 48, 0, 0, []), (41, 1, false, .aload_n 0, 0, 0, 0, []),
  (42, 1, false, .iload_n 3, 3, 0, 0, []), (43, 1, false, .iload_n 1, 1, 0, 0, []), (44, 1, false, .iload_n 2, 2, 0, 0, []), (45, 3, false, .invokevirtual 80, 161, 4, 0, [0, 2]),
  (48, 1, false, .aload_n 0, 0, 0, 0, []), (49, 1, false, .aload_n 0, 0, 0, 0, []), (50, 3, false, .getfield 20, 2, 1, 2, [0]), (53, 1, false, .iload_n 1, 1, 0, 0, []),
  (54, 1, false, .iload_n 1, 1, 0, 0, []), (55, 1, false, .iload_n 2, 2, 0, 0, []), (56, 3, false, .invokevirtual 83, 162, 5, 0, [0, 2]), (59, 1, false, .return_, 0, 0, 0, [])]
def k_Ground_melt : List El := [(0, 1, false, .iconst 0, 0, 0, 0, []), (1, 1, false, .istore_n 2, 2, 0, 0, []), (2, 1, true, .iload_n 2, 2, 0, 0, []), (3, 1, false, .aload_n 0, 0, 0, 0, []),
  (4, 3, false, .getfield 9, 2, 0, 2, [0]), (7, 3, false, .getfield 63, 6, 4, 2, [1]), (10, 3, false, .invokevirtual 66, 228, 1, 0, [0, 8]), (13, 3, false, .if_icmp .ge 66, 79, 0, 0, []),
  (16, 1, false, .aload_n 0, 0, 0, 0, []), (17, 3, false, .getfield 9, 2, 0, 2, [0]), (20, 3, false, .getfield 63, 6, 4, 2, [1]), (23, 1, false, .iload_n 2, 2, 0, 0, []),
  (24, 1, false, .iconst 2, 2, 0, 0, []), (25, 3, false, .invokevirtual 42, 230, 3, 0, [0, 8]), (28, 1, false, .iload_n 1, 1, 0, 0, []), (29, 3, false, .if_icmp .ne 44, 73, 0, 0, []),
  (32, 1, false, .aload_n 0, 0, 0, 0, []), (33, 3, false, .getfield 9, 2, 0, 2, [0]), (36, 3, false, .getfield 63, 6, 4, 2, [1]), (39, 1, false, .iload_n 2, 2, 0, 0, []),
  (40, 1, false, .iconst 0, 0, 0, 0, []), (41, 3, false, .invokevirtual 42, 230, 3, 0, [0, 8]), (44, 1, false, .aload_n 0, 0, 0, 0, []), (45, 3, false, .getfield 9, 2, 0, 2, [0]),
  (48, 3, false, .getfield 63, 6, 4, 2, [1]), (51, 1, false, .iload_n 2, 2, 0, 0, []), (52, 1, false, .iconst 1, 1, 0, 0, []), (53, 3, false, .invokevirtual 42, 230, 3, 0, [0, 8]),
  (56, 1, false, .iconst 1, 1, 0, 0, []), (57, 1, false, .iadd, 0, 0, 0, []), (58, 3, false, .invokestatic 87, 40, 2, 0, [1]), (61, 1, false, .istore_n 3, 3, 0, 0, []),
  (62, 1, false, .aload_n 0, 0, 0, 0, []), (63, 1, false, .aload_n 0, 0, 0, 0, []), (64, 3, false, .getfield 24, 2, 2, 2, [0]), (67, 1, false, .iload_n 2, 2, 0, 0, []),
  (68, 1, false, .iload_n 3, 3, 0, 0, []), (69, 1, false, .iload_n 1, 1, 0, 0, []), (70, 3, false, .invokevirtual 83, 162, 5, 0, [0, 2]), (73, 3, false, .iinc 2 1, 2, 1, 0, []),
  (76, 3, false, .goto (-74), 2, 0, 0, []), (79, 1, false, .return_, 0, 0, 0, [])]
def k_Ground_keeperOf : List El := [(0, 1, false, .aload_n 0, 0, 0, 0, []), (1, 3, false, .getfield 9, 2, 0, 2, [0]), (4, 1, false, .iload_n 1, 1, 0, 0, []), (5, 3, false, .invokevirtual 90, 193, 2, 0, [0, 6]),
  (8, 1, false, .istore_n 3, 3, 0, 0, []), (9, 1, false, .iload_n 3, 3, 0, 0, []), (10, 1, false, .iconst (-1), 1, 0, 1, []), (11, 3, false, .if_icmp .eq 23, 34, 0, 0, []),
  (14, 1, false, .iload_n 2, 2, 0, 0, []), (15, 1, false, .aload_n 0, 0, 0, 0, []), (16, 3, false, .getfield 9, 2, 0, 2, [0]), (19, 3, false, .getfield 63, 6, 4, 2, [1]),
  (22, 1, false, .iload_n 3, 3, 0, 0, []), (23, 1, false, .iconst 2, 2, 0, 0, []), (24, 3, false, .invokevirtual 42, 230, 3, 0, [0, 8]), (27, 3, false, .if_icmp .ge 7, 34, 0, 0, []),
  (30, 1, false, .iload_n 3, 3, 0, 0, []), (31, 3, false, .goto 4, 35, 0, 0, []), (34, 1, false, .iconst (-1), 1, 0, 1, []), (35, 1, false, .ireturn, 0, 0, 0, [])]
def k_Ground_hail : List El := [(0, 1, false, .aload_n 0, 0, 0, 0, []), (1, 3, false, .getfield 20, 2, 1, 2, [0]), (4, 1, false, .iload_n 2, 2, 0, 0, []), (5, 3, false, .invokevirtual 70, 234, 2, 0, [0, 8]),
  (8, 1, false, .aload_n 0, 0, 0, 0, []), (9, 3, false, .getfield 9, 2, 0, 2, [0]), (12, 2, false, .bipush 8, 8, 0, 0, []), (14, 3, false, .invokevirtual 93, 190, 2, 0, [0, 6]),
  (17, 3, false, .if_icmp .le 96, 113, 0, 0, []), (20, 1, false, .aload_n 0, 0, 0, 0, []), (21, 3, false, .getfield 33, 2, 5, 2, [0]), (24, 1, false, .iload_n 1, 1, 0, 0, []),
  (25, 1, false, .iconst 2, 2, 0, 0, []), (26, 3, false, .invokevirtual 42, 230, 3, 0, [0, 8]), (29, 1, false, .iconst (-1), 1, 0, 1, []), (30, 3, false, .if_icmp .ne 83, 113, 0, 0, []),
  (33, 1, false, .aload_n 0, 0, 0, 0, []), (34, 3, false, .getfield 33, 2, 5, 2, [0]), (37, 1, false, .iload_n 1, 1, 0, 0, []), (38, 1, false, .iconst 2, 2, 0, 0, []),
  (39, 1, false, .iload_n 3, 3, 0, 0, []), (40, 3, false, .invokevirtual 46, 231, 4, 0, [0, 8]), (43, 1, false, .aload_n 0, 0, 0, 0, []), (44, 3, false, .getfield 27, 2, 3, 2, [0]),
  (47, 1, false, .aload_n 0, 0, 0, 0, []), (48, 3, false, .getfield 20, 2, 1, 2, [0]), (51, 1, false, .iload_n 2, 2, 0, 0, []), (52, 3, false, .invokevirtual 96, 235, 2, 0, [0, 8]),
  (55, 1, false, .iconst 2, 2, 0, 0, []), (56, 1, false, .aload_n 0, 0, 0, 0, []), (57, 3, false, .getfield 9, 2, 0, 2, [0]), (60, 3, false, .getfield 39, 6, 3, 2, [1]),
  (63, 1, false, .iload_n 1, 1, 0, 0, []), (64, 1, false, .iconst 4, 4, 0, 0, []), (65, 3, false, .invokevirtual 42, 230, 3, 0, [0, 8]), (68, 3, false, .invokevirtual 99, 232, 4, 0, [0, 8]),
  (71, 1, false, .aload_n 0, 0, 0, 0, []), (72, 3, false, .getfield 30, 2, 4, 2, [0]), (75, 1, false, .aload_n 0, 0, 0, 0, []), (76, 3, false, .getfield 9, 2, 0, 2, [0]),
  (79, 3, false, .getfield 39, 6, 3, 2, [1]), (82, 1, false, .iload_n 1, 1, 0, 0, []), (83, 1, false, .iconst 2, 2, 0, 0, []), (84, 3, false, .invokevirtual 42, 230, 3, 0, [0, 8]),
  (87, 1, false, .iconst 1, 1, 0, 0, []), (88, 1, false, .aload_n 0, 0, 0, 0, []), (89, 3, false, .getfield 9, 2, 0, 2, [0]), (92, 3, false, .getfield 39, 6, 3, 2, [1]),
  (95, 1, false, .iload_n 1, 1, 0, 0, []), (96, 1, false, .iconst 4, 4, 0, 0, []), (97, 3, false, .invokevirtual 42, 230, 3, 0, [0, 8]), (100, 3, false, .invokevirtual 99, 232, 4, 0, [0, 8]),
  (103, 1, false, .aload_n 0, 0, 0, 0, []), (104, 1, false, .dup, 0, 0, 0, []), (105, 3, false, .getfield 60, 2, 9, 0, [0]), (108, 1, false, .iconst 1, 1, 0, 0, []),
  (109, 1, false, .iadd, 0, 0, 0, []), (110, 3, false, .putfield 60, 2, 9, 0, [0]), (113, 1, false, .return_, 0, 0, 0, [])]
def k_Ground_lie : List El := [(0, 1, false, .aload_n 0, 0, 0, 0, []), (1, 1, false, .iload_n 3, 3, 0, 0, []), (2, 2, false, .iload 4, 4, 0, 0, []), (4, 3, false, .invokevirtual 77, 160, 3, 0, [0, 2]),
  (7, 2, false, .istore 5, 5, 0, 0, []), (9, 1, false, .aload_n 0, 0, 0, 0, []), (10, 3, false, .getfield 9, 2, 0, 2, [0]), (13, 1, false, .iload_n 3, 3, 0, 0, []),
  (14, 3, false, .invokevirtual 74, 192, 2, 0, [0, 6]), (17, 2, false, .istore 6, 6, 0, 0, []), (19, 1, false, .iconst 0, 0, 0, 0, []), (20, 2, false, .istore 7, 7, 0, 0, []),
  (22, 2, true, .iload 7, 7, 0, 0, []), (24, 2, false, .bipush 8, 8, 0, 0, []), (26, 3, false, .if_icmp .ge 78, 104, 0, 0, []), (29, 1, false, .aload_n 1, 1, 0, 0, []),
  (30, 1, false, .iload_n 2, 2, 0, 0, []), (31, 2, false, .iload 7, 7, 0, 0, []), (33, 3, false, .invokevirtual 42, 230, 3, 0, [0, 8]), (36, 2, false, .istore 8, 8, 0, 0, []),
  (38, 1, false, .aload_n 1, 1, 0, 0, []), (39, 1, false, .iload_n 2, 2, 0, 0, []), (40, 2, false, .iload 7, 7, 0, 0, []), (42, 1, false, .iconst 0, 0, 0, 0, []),
  (43, 3, false, .invokevirtual 46, 231, 4, 0, [0, 8]), (46, 2, false, .iload 5, 5, 0, 0, []), (48, 1, false, .iconst (-1), 1, 0, 1, []), (49, 3, false, .if_icmp .eq 19, 68, 0, 0, []),
  (52, 1, false, .aload_n 0, 0, 0, 0, []), (53, 3, false, .getfield 24, 2, 2, 2, [0]), (56, 2, false, .iload 5, 5, 0, 0, []), (58, 2, false, .iload 7, 7, 0, 0, []),
  (60, 2, false, .iload 8, 8, 0, 0, []), (62, 3, false, .invokevirtual 99, 232, 4, 0, [0, 8]), (65, 3, false, .goto 33, 98, 0, 0, []), (68, 2, false, .iload 6, 6, 0, 0, []),
  (70, 1, false, .iconst (-1), 1, 0, 1, []), (71, 3, false, .if_icmp .eq 16, 87, 0, 0, []), (74, 1, false, .aload_n 0, 0, 0, 0, []), (75, 2, false, .iload 6, 6, 0, 0, []),
  (77, 2, false, .iload 7, 7, 0, 0, []), (79, 2, false, .iload 8, 8, 0, 0, []), (81, 3, false, .invokevirtual 102, 163, 4, 0, [0, 2]), (84, 3, false, .goto 14, 98, 0, 0, []),
  (87, 1, false, .aload_n 0, 0, 0, 0, []), (88, 1, false, .dup, 0, 0, 0, []), (89, 3, false, .getfield 57, 2, 8, 0, [0]), (92, 2, false, .iload 8, 8, 0, 0, []),
  (94, 1, false, .iadd, 0, 0, 0, []), (95, 3, false, .putfield 57, 2, 8, 0, [0]), (98, 3, false, .iinc 7 1, 7, 1, 0, []), (101, 3, false, .goto (-79), 22, 0, 0, []),
  (104, 1, false, .return_, 0, 0, 0, [])]
def k_Ground_soak : List El := [(0, 1, false, .iload_n 3, 3, 0, 0, []), (1, 1, false, .aload_n 0, 0, 0, 0, []), (2, 3, false, .getfield 33, 2, 5, 2, [0]), (5, 1, false, .iload_n 1, 1, 0, 0, []),
  (6, 1, false, .iconst 0, 0, 0, 0, []), (7, 3, false, .invokevirtual 42, 230, 3, 0, [0, 8]), (10, 3, false, .invokestatic 105, 0, 0, 4, []), (13, 2, false, .istore 4, 4, 0, 0, []),
  (15, 1, false, .iload_n 3, 3, 0, 0, []), (16, 2, false, .iload 4, 4, 0, 0, []), (18, 1, false, .isub, 0, 0, 0, []), (19, 2, false, .istore 5, 5, 0, 0, []),
  (21, 2, false, .iload 4, 4, 0, 0, []), (23, 1, false, .aload_n 0, 0, 0, 0, []), (24, 3, false, .getfield 9, 2, 0, 2, [0]), (27, 3, false, .getfield 39, 6, 3, 2, [1]),
  (30, 1, false, .iload_n 1, 1, 0, 0, []), (31, 1, false, .iconst 5, 5, 0, 0, []), (32, 3, false, .invokevirtual 42, 230, 3, 0, [0, 8]), (35, 1, false, .imul, 0, 0, 0, []),
  (36, 2, false, .istore 6, 6, 0, 0, []), (38, 2, false, .iload 5, 5, 0, 0, []), (40, 1, false, .aload_n 0, 0, 0, 0, []), (41, 3, false, .getfield 9, 2, 0, 2, [0]),
  (44, 2, false, .bipush 9, 9, 0, 0, []), (46, 3, false, .invokevirtual 93, 190, 2, 0, [0, 6]), (49, 1, false, .imul, 0, 0, 0, []), (50, 2, false, .istore 7, 7, 0, 0, []),
  (52, 1, false, .aload_n 0, 0, 0, 0, []), (53, 3, false, .getfield 9, 2, 0, 2, [0]), (56, 3, false, .getfield 39, 6, 3, 2, [1]), (59, 1, false, .iload_n 1, 1, 0, 0, []),
  (60, 1, false, .iconst 2, 2, 0, 0, []), (61, 3, false, .invokevirtual 42, 230, 3, 0, [0, 8]), (64, 2, false, .istore 8, 8, 0, 0, []), (66, 1, false, .aload_n 0, 0, 0, 0, []),
  (67, 3, false, .getfield 33, 2, 5, 2, [0]), (70, 1, false, .iload_n 1, 1, 0, 0, []), (71, 1, false, .iconst 0, 0, 0, 0, []), (72, 2, false, .iload 4, 4, 0, 0, []),
  (74, 1, false, .ineg, 0, 0, 0, []), (75, 3, false, .invokevirtual 99, 232, 4, 0, [0, 8]), (78, 1, false, .aload_n 0, 0, 0, 0, []), (79, 3, false, .getfield 33, 2, 5, 2, [0]),
  (82, 1, false, .iload_n 1, 1, 0, 0, []), (83, 1, false, .iconst 1, 1, 0, 0, []), (84, 2, false, .iload 5, 5, 0, 0, []), (86, 3, false, .invokevirtual 99, 232, 4, 0, [0, 8]),
  (89, 1, false, .aload_n 0, 0, 0, 0, []), (90, 3, false, .getfield 27, 2, 3, 2, [0]), (93, 1, false, .iload_n 2, 2, 0, 0, []), (94, 1, false, .iconst 0, 0, 0, 0, []),
  (95, 2, false, .iload 6, 6, 0, 0, []), (97, 3, false, .invokevirtual 99, 232, 4, 0, [0, 8]), (100, 1, false, .aload_n 0, 0, 0, 0, []), (101, 3, false, .getfield 27, 2, 3, 2, [0]),
  (104, 1, false, .iload_n 2, 2, 0, 0, []), (105, 1, false, .iconst 1, 1, 0, 0, []), (106, 2, false, .iload 7, 7, 0, 0, []), (108, 3, false, .invokevirtual 99, 232, 4, 0, [0, 8]),
  (111, 1, false, .aload_n 0, 0, 0, 0, []), (112, 3, false, .getfield 30, 2, 4, 2, [0]), (115, 2, false, .iload 8, 8, 0, 0, []), (117, 1, false, .iconst 0, 0, 0, 0, []),
  (118, 2, false, .iload 6, 6, 0, 0, []), (120, 3, false, .invokevirtual 99, 232, 4, 0, [0, 8]), (123, 1, false, .aload_n 0, 0, 0, 0, []), (124, 3, false, .getfield 30, 2, 4, 2, [0]),
  (127, 2, false, .iload 8, 8, 0, 0, []), (129, 1, false, .iconst 1, 1, 0, 0, []), (130, 2, false, .iload 7, 7, 0, 0, []), (132, 3, false, .invokevirtual 99, 232, 4, 0, [0, 8]),
  (135, 1, false, .aload_n 0, 0, 0, 0, []), (136, 1, false, .dup, 0, 0, 0, []), (137, 3, false, .getfield 50, 2, 6, 0, [0]), (140, 2, false, .iload 4, 4, 0, 0, []),
  (142, 1, false, .iadd, 0, 0, 0, []), (143, 3, false, .putfield 50, 2, 6, 0, [0]), (146, 1, false, .aload_n 0, 0, 0, 0, []), (147, 1, false, .dup, 0, 0, 0, []),
  (148, 3, false, .getfield 54, 2, 7, 0, [0]), (151, 2, false, .iload 5, 5, 0, 0, []), (153, 1, false, .iadd, 0, 0, 0, []), (154, 3, false, .putfield 54, 2, 7, 0, [0]),
  (157, 1, false, .return_, 0, 0, 0, [])]
def k_Guess_init : List El := [(0, 1, false, .aload_n 0, 0, 0, 0, []), (1, 3, false, .invokespecial 3, 0, 0, 9, []), (4, 1, false, .aload_n 0, 0, 0, 0, []), (5, 1, false, .aload_n 1, 1, 0, 0, []),
  (6, 3, false, .putfield 9, 3, 0, 2, [0]), (9, 1, false, .aload_n 0, 0, 0, 0, []), (10, 1, false, .aload_n 2, 2, 0, 0, []), (11, 3, false, .putfield 15, 3, 1, 2, [0]),
  (14, 1, false, .aload_n 0, 0, 0, 0, []), (15, 3, false, .new 19, 5, 1, 0, []), (18, 1, false, .dup, 0, 0, 0, []), (19, 2, false, .bipush 9, 9, 0, 0, []),
  (21, 3, false, .invokespecial 21, 181, 2, 1, [0]), (24, 3, false, .putfield 24, 3, 2, 2, [0]), (27, 1, false, .return_, 0, 0, 0, [])]
def k_Guess_ways : List El := [(0, 1, false, .aload_n 0, 0, 0, 0, []), (1, 3, false, .getfield 28, 3, 4, 0, [0]), (4, 1, false, .ireturn, 0, 0, 0, [])]
def k_Guess_sure : List El := [(0, 1, false, .aload_n 0, 0, 0, 0, []), (1, 3, false, .getfield 28, 3, 4, 0, [0]), (4, 3, false, .ifCond .ne 7, 11, 0, 0, []), (7, 1, false, .iconst 0, 0, 0, 0, []),
  (8, 3, false, .goto 7, 15, 0, 0, []), (11, 1, false, .aload_n 0, 0, 0, 0, []), (12, 3, false, .getfield 32, 3, 5, 0, [0]), (15, 1, false, .ireturn, 0, 0, 0, [])]
def k_Guess_liar : List El := [(0, 1, false, .aload_n 0, 0, 0, 0, []), (1, 1, false, .iconst (-1), 1, 0, 1, []), (2, 3, false, .invokevirtual 35, 169, 2, 0, [0, 3]), (5, 1, false, .aload_n 0, 0, 0, 0, []),
  (6, 3, false, .getfield 28, 3, 4, 0, [0]), (9, 3, false, .ifCond .le 5, 14, 0, 0, []), (12, 1, false, .iconst (-1), 1, 0, 1, []), (13, 1, false, .ireturn, 0, 0, 0, []),
  (14, 1, false, .iconst 0, 0, 0, 0, []), (15, 1, false, .istore_n 1, 1, 0, 0, []), (16, 1, true, .iload_n 1, 1, 0, 0, []), (17, 1, false, .aload_n 0, 0, 0, 0, []),
  (18, 3, false, .getfield 15, 3, 1, 2, [0]), (21, 3, false, .getfield 38, 0, 2, 2, [1]), (24, 3, false, .invokevirtual 44, 228, 1, 0, [0, 8]), (27, 3, false, .if_icmp .ge 23, 50, 0, 0, []),
  (30, 1, false, .aload_n 0, 0, 0, 0, []), (31, 1, false, .iload_n 1, 1, 0, 0, []), (32, 3, false, .invokevirtual 35, 169, 2, 0, [0, 3]), (35, 1, false, .aload_n 0, 0, 0, 0, []),
  (36, 3, false, .getfield 28, 3, 4, 0, [0]), (39, 3, false, .ifCond .le 5, 44, 0, 0, []), (42, 1, false, .iload_n 1, 1, 0, 0, []), (43, 1, false, .ireturn, 0, 0, 0, []),
  (44, 3, false, .iinc 1 1, 1, 1, 0, []), (47, 3, false, .goto (-31), 16, 0, 0, []), (50, 1, false, .iconst (-1), 1, 0, 1, []), (51, 1, false, .ireturn, 0, 0, 0, [])]
def k_Guess_guessed : List El := [(0, 1, false, .aload_n 0, 0, 0, 0, []), (1, 3, false, .getfield 9, 3, 0, 2, [0]), (4, 3, false, .getfield 50, 6, 2, 2, [1]), (7, 3, false, .invokevirtual 44, 228, 1, 0, [0, 8]),
  (10, 2, false, .bipush 6, 6, 0, 0, []), (12, 3, false, .invokestatic 55, 0, 0, 4, []), (15, 1, false, .ireturn, 0, 0, 0, [])]
def k_Guess_search : List El := [(0, 1, false, .aload_n 0, 0, 0, 0, []), (1, 1, false, .iconst 0, 0, 0, 0, []), (2, 3, false, .putfield 28, 3, 4, 0, [0]), (5, 1, false, .aload_n 0, 0, 0, 0, []),
  (6, 1, false, .iconst 1, 1, 0, 0, []), (7, 1, false, .aload_n 0, 0, 0, 0, []), (8, 3, false, .invokevirtual 61, 168, 1, 0, [0, 3]), (11, 1, false, .ishl, 0, 0, 0, []),
  (12, 1, false, .iconst 1, 1, 0, 0, []), (13, 1, false, .isub, 0, 0, 0, []), (14, 3, false, .putfield 32, 3, 5, 0, [0]), (17, 1, false, .aload_n 0, 0, 0, 0, []),
  (18, 1, false, .iconst 0, 0, 0, 0, []), (19, 3, false, .putfield 64, 3, 3, 0, [0]), (22, 1, false, .iconst 0, 0, 0, 0, []), (23, 1, false, .istore_n 2, 2, 0, 0, []),
  (24, 1, true, .iload_n 2, 2, 0, 0, []), (25, 1, false, .aload_n 0, 0, 0, 0, []), (26, 3, false, .getfield 15, 3, 1, 2, [0]), (29, 3, false, .getfield 38, 0, 2, 2, [1]),
  (32, 3, false, .invokevirtual 44, 228, 1, 0, [0, 8]), (35, 3, false, .if_icmp .ge 51, 86, 0, 0, []), (38, 1, false, .iload_n 2, 2, 0, 0, []), (39, 1, false, .iload_n 1, 1, 0, 0, []),
  (40, 3, false, .if_icmp .eq 40, 80, 0, 0, []), (43, 1, false, .aload_n 0, 0, 0, 0, []), (44, 3, false, .getfield 24, 3, 2, 2, [0]), (47, 1, false, .iload_n 2, 2, 0, 0, []),
  (48, 1, false, .aload_n 0, 0, 0, 0, []), (49, 3, false, .getfield 15, 3, 1, 2, [0]), (52, 3, false, .getfield 38, 0, 2, 2, [1]), (55, 1, false, .iload_n 2, 2, 0, 0, []),
  (56, 1, false, .iconst 2, 2, 0, 0, []), (57, 3, false, .invokevirtual 67, 230, 3, 0, [0, 8]), (60, 3, false, .invokevirtual 70, 183, 3, 0, [0, 5]), (63, 1, false, .aload_n 0, 0, 0, 0, []),
  (64, 1, false, .dup, 0, 0, 0, []), (65, 3, false, .getfield 64, 3, 3, 0, [0]), (68, 1, false, .aload_n 0, 0, 0, 0, []), (69, 3, false, .getfield 24, 3, 2, 2, [0]),
  (72, 1, false, .iload_n 2, 2, 0, 0, []), (73, 3, false, .invokevirtual 74, 182, 2, 0, [0, 5]), (76, 1, false, .iadd, 0, 0, 0, []), (77, 3, false, .putfield 64, 3, 3, 0, [0]),
  (80, 3, false, .iinc 2 1, 2, 1, 0, []), (83, 3, false, .goto (-59), 24, 0, 0, []), (86, 1, false, .iconst 0, 0, 0, 0, []), (87, 1, false, .istore_n 2, 2, 0, 0, []),
  (88, 1, false, .iconst 0, 0, 0, 0, []), (89, 1, false, .istore_n 3, 3, 0, 0, []), (90, 1, true, .iload_n 3, 3, 0, 0, []), (91, 1, false, .aload_n 0, 0, 0, 0, []),
  (92, 3, false, .invokevirtual 61, 168, 1, 0, [0, 3]), (95, 3, false, .if_icmp .ge 24, 119, 0, 0, []), (98, 1, false, .iload_n 2, 2, 0, 0, []), (99, 1, false, .aload_n 0, 0, 0, 0, []),
  (100, 3, false, .getfield 9, 3, 0, 2, [0]), (103, 3, false, .getfield 50, 6, 2, 2, [1]), (106, 1, false, .iload_n 3, 3, 0, 0, []), (107, 1, false, .iconst 4, 4, 0, 0, []),
  (108, 3, false, .invokevirtual 67, 230, 3, 0, [0, 8]), (111, 1, false, .iadd, 0, 0, 0, []), (112, 1, false, .istore_n 2, 2, 0, 0, []), (113, 3, false, .iinc 3 1, 3, 1, 0, []),
  (116, 3, false, .goto (-26), 90, 0, 0, []), (119, 1, false, .aload_n 0, 0, 0, 0, []), (120, 1, false, .iconst 0, 0, 0, 0, []), (121, 1, false, .iconst 0, 0, 0, 0, []),
  (122, 1, false, .iload_n 2, 2, 0, 0, []), (123, 1, false, .iload_n 1, 1, 0, 0, []), (124, 3, false, .invokevirtual 77, 170, 5, 0, [0, 3]), (127, 1, false, .return_, 0, 0, 0, [])]
def k_Guess_place : List El := [(0, 1, false, .aload_n 0, 0, 0, 0, []), (1, 3, false, .getfield 64, 3, 3, 0, [0]), (4, 1, false, .iload_n 3, 3, 0, 0, []), (5, 3, false, .if_icmp .le 4, 9, 0, 0, []),
  (8, 1, false, .return_, 0, 0, 0, []), (9, 1, false, .iload_n 1, 1, 0, 0, []), (10, 1, false, .aload_n 0, 0, 0, 0, []), (11, 3, false, .invokevirtual 61, 168, 1, 0, [0, 3]),
  (14, 3, false, .if_icmp .lt 24, 38, 0, 0, []), (17, 1, false, .aload_n 0, 0, 0, 0, []), (18, 1, false, .dup, 0, 0, 0, []), (19, 3, false, .getfield 28, 3, 4, 0, [0]),
  (22, 1, false, .iconst 1, 1, 0, 0, []), (23, 1, false, .iadd, 0, 0, 0, []), (24, 3, false, .putfield 28, 3, 4, 0, [0]), (27, 1, false, .aload_n 0, 0, 0, 0, []),
  (28, 1, false, .dup, 0, 0, 0, []), (29, 3, false, .getfield 32, 3, 5, 0, [0]), (32, 1, false, .iload_n 2, 2, 0, 0, []), (33, 1, false, .iand, 0, 0, 0, []),
  (34, 3, false, .putfield 32, 3, 5, 0, [0]), (37, 1, false, .return_, 0, 0, 0, []), (38, 1, false, .aload_n 0, 0, 0, 0, []), (39, 3, false, .getfield 9, 3, 0, 2, [0]),
  (42, 3, false, .getfield 50, 6, 2, 2, [1]), (45, 1, false, .iload_n 1, 1, 0, 0, []), (46, 1, false, .iconst 4, 4, 0, 0, []), (47, 3, false, .invokevirtual 67, 230, 3, 0, [0, 8]),
  (50, 2, false, .istore 5, 5, 0, 0, []), (52, 1, false, .iconst 0, 0, 0, 0, []), (53, 2, false, .istore 6, 6, 0, 0, []), (55, 2, true, .iload 6, 6, 0, 0, []),
  (57, 1, false, .aload_n 0, 0, 0, 0, []), (58, 3, false, .getfield 15, 3, 1, 2, [0]), (61, 3, false, .getfield 38, 0, 2, 2, [1]), (64, 3, false, .invokevirtual 44, 228, 1, 0, [0, 8]),
  (67, 3, false, .if_icmp .ge 75, 142, 0, 0, []), (70, 2, false, .iload 6, 6, 0, 0, []), (72, 2, false, .iload 4, 4, 0, 0, []), (74, 3, false, .if_icmp .eq 62, 136, 0, 0, []),
  (77, 1, false, .aload_n 0, 0, 0, 0, []), (78, 3, false, .getfield 24, 3, 2, 2, [0]), (81, 2, false, .iload 6, 6, 0, 0, []), (83, 3, false, .invokevirtual 74, 182, 2, 0, [0, 5]),
  (86, 2, false, .iload 5, 5, 0, 0, []), (88, 3, false, .if_icmp .lt 48, 136, 0, 0, []), (91, 1, false, .aload_n 0, 0, 0, 0, []), (92, 1, false, .iload_n 1, 1, 0, 0, []),
  (93, 2, false, .iload 6, 6, 0, 0, []), (95, 3, false, .invokevirtual 81, 172, 3, 0, [0, 3]), (98, 3, false, .ifCond .eq 38, 136, 0, 0, []), (101, 1, false, .aload_n 0, 0, 0, 0, []),
  (102, 2, false, .iload 6, 6, 0, 0, []), (104, 2, false, .iload 5, 5, 0, 0, []), (106, 3, false, .invokevirtual 85, 171, 3, 0, [0, 3]), (109, 1, false, .aload_n 0, 0, 0, 0, []),
  (110, 1, false, .iload_n 1, 1, 0, 0, []), (111, 1, false, .iconst 1, 1, 0, 0, []), (112, 1, false, .iadd, 0, 0, 0, []), (113, 1, false, .iload_n 2, 2, 0, 0, []),
  (114, 1, false, .iconst 1, 1, 0, 0, []), (115, 1, false, .iload_n 1, 1, 0, 0, []), (116, 1, false, .ishl, 0, 0, 0, []), (117, 1, false, .ior, 0, 0, 0, []),
  (118, 1, false, .iload_n 3, 3, 0, 0, []), (119, 2, false, .iload 5, 5, 0, 0, []), (121, 1, false, .isub, 0, 0, 0, []), (122, 2, false, .iload 4, 4, 0, 0, []),
  (124, 3, false, .invokevirtual 77, 170, 5, 0, [0, 3]), (127, 1, false, .aload_n 0, 0, 0, 0, []), (128, 2, false, .iload 6, 6, 0, 0, []), (130, 2, false, .iload 5, 5, 0, 0, []),
  (132, 1, false, .ineg, 0, 0, 0, []), (133, 3, false, .invokevirtual 85, 171, 3, 0, [0, 3]), (136, 3, false, .iinc 6 1, 6, 1, 0, []), (139, 3, false, .goto (-84), 55, 0, 0, []),
  (142, 1, false, .aload_n 0, 0, 0, 0, []), (143, 1, false, .iload_n 1, 1, 0, 0, []), (144, 1, false, .iconst 1, 1, 0, 0, []), (145, 1, false, .iadd, 0, 0, 0, []),
  (146, 1, false, .iload_n 2, 2, 0, 0, []), (147, 1, false, .iload_n 3, 3, 0, 0, []), (148, 2, false, .iload 5, 5, 0, 0, []), (150, 1, false, .isub, 0, 0, 0, []),
  (151, 2, false, .iload 4, 4, 0, 0, []), (153, 3, false, .invokevirtual 77, 170, 5, 0, [0, 3]), (156, 1, false, .return_, 0, 0, 0, [])]
def k_Guess_explainBy : List El := [(0, 1, false, .aload_n 0, 0, 0, 0, []), (1, 3, false, .getfield 24, 3, 2, 2, [0]), (4, 1, false, .iload_n 1, 1, 0, 0, []), (5, 1, false, .iload_n 2, 2, 0, 0, []),
  (6, 1, false, .ineg, 0, 0, 0, []), (7, 3, false, .invokevirtual 88, 184, 3, 0, [0, 5]), (10, 1, false, .aload_n 0, 0, 0, 0, []), (11, 1, false, .dup, 0, 0, 0, []),
  (12, 3, false, .getfield 64, 3, 3, 0, [0]), (15, 1, false, .iload_n 2, 2, 0, 0, []), (16, 1, false, .isub, 0, 0, 0, []), (17, 3, false, .putfield 64, 3, 3, 0, [0]),
  (20, 1, false, .return_, 0, 0, 0, [])]
def k_Guess_passes : List El := [(0, 1, false, .aload_n 0, 0, 0, 0, []), (1, 3, false, .getfield 15, 3, 1, 2, [0]), (4, 3, false, .getfield 38, 0, 2, 2, [1]), (7, 1, false, .iload_n 2, 2, 0, 0, []),
  (8, 1, false, .iconst 0, 0, 0, 0, []), (9, 3, false, .invokevirtual 67, 230, 3, 0, [0, 8]), (12, 1, false, .aload_n 0, 0, 0, 0, []), (13, 3, false, .getfield 15, 3, 1, 2, [0]),
  (16, 3, false, .getfield 38, 0, 2, 2, [1]), (19, 1, false, .iload_n 2, 2, 0, 0, []), (20, 1, false, .iconst 1, 1, 0, 0, []), (21, 3, false, .invokevirtual 67, 230, 3, 0, [0, 8]),
  (24, 3, false, .invokestatic 91, 40, 2, 0, [1]), (27, 1, false, .istore_n 3, 3, 0, 0, []), (28, 1, false, .aload_n 0, 0, 0, 0, []), (29, 3, false, .getfield 9, 3, 0, 2, [0]),
  (32, 1, false, .iload_n 1, 1, 0, 0, []), (33, 1, false, .iload_n 3, 3, 0, 0, []), (34, 3, false, .invokevirtual 94, 199, 3, 0, [0, 6]), (37, 3, false, .ifCond .le 7, 44, 0, 0, []),
  (40, 1, false, .iconst 1, 1, 0, 0, []), (41, 3, false, .goto 4, 45, 0, 0, []), (44, 1, false, .iconst 0, 0, 0, 0, []), (45, 1, false, .ireturn, 0, 0, 1, [])]
def k_Market_init : List El := [(0, 1, false, .aload_n 0, 0, 0, 0, []), (1, 3, false, .invokespecial 3, 0, 0, 9, []), (4, 1, false, .aload_n 0, 0, 0, 0, []), (5, 1, false, .aload_n 1, 1, 0, 0, []),
  (6, 3, false, .putfield 9, 4, 0, 2, [0]), (9, 1, false, .aload_n 0, 0, 0, 0, []), (10, 1, false, .aload_n 2, 2, 0, 0, []), (11, 3, false, .putfield 15, 4, 1, 2, [0]),
  (14, 1, false, .aload_n 0, 0, 0, 0, []), (15, 3, false, .new 19, 5, 1, 0, []), (18, 1, false, .dup, 0, 0, 0, []), (19, 2, false, .bipush 8, 8, 0, 0, []),
  (21, 3, false, .invokespecial 21, 181, 2, 1, [0]), (24, 3, false, .putfield 24, 4, 2, 2, [0]), (27, 1, false, .aload_n 0, 0, 0, 0, []), (28, 3, false, .new 19, 5, 1, 0, []),
  (31, 1, false, .dup, 0, 0, 0, []), (32, 2, false, .bipush 8, 8, 0, 0, []), (34, 3, false, .invokespecial 21, 181, 2, 1, [0]), (37, 3, false, .putfield 28, 4, 3, 2, [0]),
  (40, 1, false, .aload_n 0, 0, 0, 0, []), (41, 3, false, .new 19, 5, 1, 0, []), (44, 1, false, .dup, 0, 0, 0, []), (45, 2, false, .bipush 12, 12, 0, 0, []),
  (47, 3, false, .invokespecial 21, 181, 2, 1, [0]), (50, 3, false, .putfield 31, 4, 4, 2, [0]), (53, 1, false, .return_, 0, 0, 0, [])]
def k_Market_price : List El := [(0, 1, false, .aload_n 0, 0, 0, 0, []), (1, 3, false, .getfield 34, 4, 5, 0, [0]), (4, 1, false, .ireturn, 0, 0, 0, [])]
def k_Market_allPay : List El := [(0, 1, false, .iconst 0, 0, 0, 0, []), (1, 1, false, .istore_n 1, 1, 0, 0, []), (2, 1, false, .iconst 0, 0, 0, 0, []), (3, 1, false, .istore_n 2, 2, 0, 0, []),
  (4, 1, true, .iload_n 2, 2, 0, 0, []), (5, 1, false, .aload_n 0, 0, 0, 0, []), (6, 3, false, .getfield 15, 4, 1, 2, [0]), (9, 3, false, .getfield 38, 0, 1, 2, [1]),
  (12, 3, false, .invokevirtual 44, 228, 1, 0, [0, 8]), (15, 3, false, .if_icmp .ge 20, 35, 0, 0, []), (18, 1, false, .iload_n 1, 1, 0, 0, []), (19, 1, false, .aload_n 0, 0, 0, 0, []),
  (20, 3, false, .getfield 28, 4, 3, 2, [0]), (23, 1, false, .iload_n 2, 2, 0, 0, []), (24, 3, false, .invokevirtual 50, 182, 2, 0, [0, 5]), (27, 1, false, .iadd, 0, 0, 0, []),
  (28, 1, false, .istore_n 1, 1, 0, 0, []), (29, 3, false, .iinc 2 1, 2, 1, 0, []), (32, 3, false, .goto (-28), 4, 0, 0, []), (35, 1, false, .iload_n 1, 1, 0, 0, []),
  (36, 1, false, .aload_n 0, 0, 0, 0, []), (37, 3, false, .getfield 34, 4, 5, 0, [0]), (40, 1, false, .imul, 0, 0, 0, []), (41, 1, false, .ireturn, 0, 0, 0, [])]
def k_Market_serve : List El := [(0, 1, false, .iload_n 1, 1, 0, 0, []), (1, 1, false, .istore_n 2, 2, 0, 0, []), (2, 1, false, .aload_n 0, 0, 0, 0, []), (3, 1, false, .iconst 0, 0, 0, 0, []),
  (4, 3, false, .putfield 34, 4, 5, 0, [0]), (7, 1, false, .aload_n 0, 0, 0, 0, []), (8, 3, false, .getfield 24, 4, 2, 2, [0]), (11, 1, false, .iconst 0, 0, 0, 0, []),
  (12, 3, false, .invokevirtual 54, 185, 2, 0, [0, 5]), (15, 1, false, .iconst 0, 0, 0, 0, []), (16, 1, false, .istore_n 3, 3, 0, 0, []), (17, 1, true, .iload_n 3, 3, 0, 0, []),
  (18, 1, false, .aload_n 0, 0, 0, 0, []), (19, 3, false, .getfield 15, 4, 1, 2, [0]), (22, 3, false, .getfield 38, 0, 1, 2, [1]), (25, 3, false, .invokevirtual 44, 228, 1, 0, [0, 8]),
  (28, 3, false, .if_icmp .ge 102, 130, 0, 0, []), (31, 1, false, .aload_n 0, 0, 0, 0, []), (32, 3, false, .invokevirtual 57, 177, 1, 0, [0, 4]), (35, 2, false, .istore 4, 4, 0, 0, []),
  (37, 1, false, .iload_n 2, 2, 0, 0, []), (38, 1, false, .aload_n 0, 0, 0, 0, []), (39, 3, false, .getfield 15, 4, 1, 2, [0]), (42, 3, false, .getfield 38, 0, 1, 2, [1]),
  (45, 2, false, .iload 4, 4, 0, 0, []), (47, 1, false, .iconst 1, 1, 0, 0, []), (48, 3, false, .invokevirtual 60, 230, 3, 0, [0, 8]), (51, 3, false, .invokestatic 63, 0, 0, 4, []),
  (54, 2, false, .istore 5, 5, 0, 0, []), (56, 2, false, .iload 5, 5, 0, 0, []), (58, 1, false, .aload_n 0, 0, 0, 0, []), (59, 3, false, .getfield 15, 4, 1, 2, [0]),
  (62, 3, false, .getfield 38, 0, 1, 2, [1]), (65, 2, false, .iload 4, 4, 0, 0, []), (67, 1, false, .iconst 1, 1, 0, 0, []), (68, 3, false, .invokevirtual 60, 230, 3, 0, [0, 8]),
  (71, 3, false, .if_icmp .ge 27, 98, 0, 0, []), (74, 1, false, .aload_n 0, 0, 0, 0, []), (75, 1, false, .aload_n 0, 0, 0, 0, []), (76, 3, false, .getfield 34, 4, 5, 0, [0]),
  (79, 1, false, .aload_n 0, 0, 0, 0, []), (80, 3, false, .getfield 15, 4, 1, 2, [0]), (83, 3, false, .getfield 38, 0, 1, 2, [1]), (86, 2, false, .iload 4, 4, 0, 0, []),
  (88, 1, false, .iconst 2, 2, 0, 0, []), (89, 3, false, .invokevirtual 60, 230, 3, 0, [0, 8]), (92, 3, false, .invokestatic 68, 0, 0, 5, []), (95, 3, false, .putfield 34, 4, 5, 0, [0]),
  (98, 1, false, .aload_n 0, 0, 0, 0, []), (99, 3, false, .getfield 28, 4, 3, 2, [0]), (102, 2, false, .iload 4, 4, 0, 0, []), (104, 2, false, .iload 5, 5, 0, 0, []),
  (106, 3, false, .invokevirtual 71, 183, 3, 0, [0, 5]), (109, 1, false, .aload_n 0, 0, 0, 0, []), (110, 3, false, .getfield 24, 4, 2, 2, [0]), (113, 2, false, .iload 4, 4, 0, 0, []),
  (115, 1, false, .iconst 1, 1, 0, 0, []), (116, 3, false, .invokevirtual 71, 183, 3, 0, [0, 5]), (119, 1, false, .iload_n 2, 2, 0, 0, []), (120, 2, false, .iload 5, 5, 0, 0, []),
  (122, 1, false, .isub, 0, 0, 0, []), (123, 1, false, .istore_n 2, 2, 0, 0, []), (124, 3, false, .iinc 3 1, 3, 1, 0, []), (127, 3, false, .goto (-110), 17, 0, 0, []),
  (130, 1, false, .return_, 0, 0, 0, [])]
def k_Market_bestLeft : List El := [(0, 1, false, .iconst (-1), 1, 0, 1, []), (1, 1, false, .istore_n 1, 1, 0, 0, []), (2, 1, false, .iconst 0, 0, 0, 0, []), (3, 1, false, .istore_n 2, 2, 0, 0, []),
  (4, 1, true, .iload_n 2, 2, 0, 0, []), (5, 1, false, .aload_n 0, 0, 0, 0, []), (6, 3, false, .getfield 15, 4, 1, 2, [0]), (9, 3, false, .getfield 38, 0, 1, 2, [1]),
  (12, 3, false, .invokevirtual 44, 228, 1, 0, [0, 8]), (15, 3, false, .if_icmp .ge 64, 79, 0, 0, []), (18, 1, false, .iload_n 1, 1, 0, 0, []), (19, 1, false, .iconst (-1), 1, 0, 1, []),
  (20, 3, false, .if_icmp .eq 30, 50, 0, 0, []), (23, 1, false, .aload_n 0, 0, 0, 0, []), (24, 3, false, .getfield 15, 4, 1, 2, [0]), (27, 3, false, .getfield 38, 0, 1, 2, [1]),
  (30, 1, false, .iload_n 2, 2, 0, 0, []), (31, 1, false, .iconst 2, 2, 0, 0, []), (32, 3, false, .invokevirtual 60, 230, 3, 0, [0, 8]), (35, 1, false, .aload_n 0, 0, 0, 0, []),
  (36, 3, false, .getfield 15, 4, 1, 2, [0]), (39, 3, false, .getfield 38, 0, 1, 2, [1]), (42, 1, false, .iload_n 1, 1, 0, 0, []), (43, 1, false, .iconst 2, 2, 0, 0, []),
  (44, 3, false, .invokevirtual 60, 230, 3, 0, [0, 8]), (47, 3, false, .if_icmp .le 7, 54, 0, 0, []), (50, 1, false, .iconst 1, 1, 0, 0, []), (51, 3, false, .goto 4, 55, 0, 0, []),
  (54, 1, false, .iconst 0, 0, 0, 0, []), (55, 1, false, .istore_n 3, 3, 0, 0, []), (56, 1, false, .aload_n 0, 0, 0, 0, []), (57, 3, false, .getfield 24, 4, 2, 2, [0]),
  (60, 1, false, .iload_n 2, 2, 0, 0, []), (61, 3, false, .invokevirtual 50, 182, 2, 0, [0, 5]), (64, 3, false, .ifCond .ne 9, 73, 0, 0, []), (67, 1, false, .iload_n 3, 3, 0, 0, []),
  (68, 3, false, .ifCond .eq 5, 73, 0, 0, []), (71, 1, false, .iload_n 2, 2, 0, 0, []), (72, 1, false, .istore_n 1, 1, 0, 0, []), (73, 3, false, .iinc 2 1, 2, 1, 0, []),
  (76, 3, false, .goto (-72), 4, 0, 0, []), (79, 1, false, .iload_n 1, 1, 0, 0, []), (80, 1, false, .ireturn, 0, 0, 0, [])]
def k_Market_ration : List El := [(0, 1, false, .aload_n 0, 0, 0, 0, []), (1, 3, false, .getfield 31, 4, 4, 2, [0]), (4, 1, false, .iconst 0, 0, 0, 0, []), (5, 3, false, .invokevirtual 54, 185, 2, 0, [0, 5]),
  (8, 1, false, .iconst 0, 0, 0, 0, []), (9, 1, false, .istore_n 2, 2, 0, 0, []), (10, 1, true, .iload_n 2, 2, 0, 0, []), (11, 1, false, .iload_n 1, 1, 0, 0, []),
  (12, 3, false, .if_icmp .ge 36, 48, 0, 0, []), (15, 1, false, .iload_n 2, 2, 0, 0, []), (16, 3, false, .sipush 9999, 9999, 0, 0, []), (19, 3, false, .if_icmp .ge 29, 48, 0, 0, []),
  (22, 1, false, .aload_n 0, 0, 0, 0, []), (23, 3, false, .invokevirtual 75, 179, 1, 0, [0, 4]), (26, 1, false, .istore_n 3, 3, 0, 0, []), (27, 1, false, .iload_n 3, 3, 0, 0, []),
  (28, 1, false, .iconst (-1), 1, 0, 1, []), (29, 3, false, .if_icmp .ne 4, 33, 0, 0, []), (32, 1, false, .return_, 0, 0, 0, []), (33, 1, false, .aload_n 0, 0, 0, 0, []),
  (34, 3, false, .getfield 31, 4, 4, 2, [0]), (37, 1, false, .iload_n 3, 3, 0, 0, []), (38, 1, false, .iconst 1, 1, 0, 0, []), (39, 3, false, .invokevirtual 78, 184, 3, 0, [0, 5]),
  (42, 3, false, .iinc 2 1, 2, 1, 0, []), (45, 3, false, .goto (-35), 10, 0, 0, []), (48, 1, false, .return_, 0, 0, 0, [])]
def k_Market_driest : List El := [(0, 1, false, .iconst (-1), 1, 0, 1, []), (1, 1, false, .istore_n 1, 1, 0, 0, []), (2, 1, false, .iconst 0, 0, 0, 0, []), (3, 1, false, .istore_n 2, 2, 0, 0, []),
  (4, 1, true, .iload_n 2, 2, 0, 0, []), (5, 1, false, .aload_n 0, 0, 0, 0, []), (6, 3, false, .getfield 9, 4, 0, 2, [0]), (9, 3, false, .getfield 81, 6, 3, 2, [1]),
  (12, 3, false, .invokevirtual 44, 228, 1, 0, [0, 8]), (15, 3, false, .if_icmp .ge 58, 73, 0, 0, []), (18, 1, false, .aload_n 0, 0, 0, 0, []), (19, 3, false, .getfield 31, 4, 4, 2, [0]),
  (22, 1, false, .iload_n 2, 2, 0, 0, []), (23, 3, false, .invokevirtual 50, 182, 2, 0, [0, 5]), (26, 1, false, .aload_n 0, 0, 0, 0, []), (27, 3, false, .getfield 9, 4, 0, 2, [0]),
  (30, 3, false, .getfield 81, 6, 3, 2, [1]), (33, 1, false, .iload_n 2, 2, 0, 0, []), (34, 1, false, .iconst 3, 3, 0, 0, []), (35, 3, false, .invokevirtual 60, 230, 3, 0, [0, 8]),
  (38, 3, false, .if_icmp .ge 7, 45, 0, 0, []), (41, 1, false, .iconst 1, 1, 0, 0, []), (42, 3, false, .goto 4, 46, 0, 0, []), (45, 1, false, .iconst 0, 0, 0, 0, []),
  (46, 1, false, .istore_n 3, 3, 0, 0, []), (47, 1, false, .iload_n 3, 3, 0, 0, []), (48, 3, false, .ifCond .eq 19, 67, 0, 0, []), (51, 1, false, .iload_n 1, 1, 0, 0, []),
  (52, 1, false, .iconst (-1), 1, 0, 1, []), (53, 3, false, .if_icmp .eq 12, 65, 0, 0, []), (56, 1, false, .aload_n 0, 0, 0, 0, []), (57, 1, false, .iload_n 2, 2, 0, 0, []),
  (58, 1, false, .iload_n 1, 1, 0, 0, []), (59, 3, false, .invokevirtual 86, 180, 3, 0, [0, 4]), (62, 3, false, .ifCond .eq 5, 67, 0, 0, []), (65, 1, false, .iload_n 2, 2, 0, 0, []),
  (66, 1, false, .istore_n 1, 1, 0, 0, []), (67, 3, false, .iinc 2 1, 2, 1, 0, []), (70, 3, false, .goto (-66), 4, 0, 0, []), (73, 1, false, .iload_n 1, 1, 0, 0, []),
  (74, 1, false, .ireturn, 0, 0, 0, [])]
def k_Market_hasLess : List El := [(0, 1, false, .aload_n 0, 0, 0, 0, []), (1, 3, false, .getfield 31, 4, 4, 2, [0]), (4, 1, false, .iload_n 1, 1, 0, 0, []), (5, 3, false, .invokevirtual 50, 182, 2, 0, [0, 5]),
  (8, 1, false, .aload_n 0, 0, 0, 0, []), (9, 3, false, .getfield 9, 4, 0, 2, [0]), (12, 3, false, .getfield 81, 6, 3, 2, [1]), (15, 1, false, .iload_n 2, 2, 0, 0, []),
  (16, 1, false, .iconst 3, 3, 0, 0, []), (17, 3, false, .invokevirtual 60, 230, 3, 0, [0, 8]), (20, 1, false, .imul, 0, 0, 0, []), (21, 1, false, .aload_n 0, 0, 0, 0, []),
  (22, 3, false, .getfield 31, 4, 4, 2, [0]), (25, 1, false, .iload_n 2, 2, 0, 0, []), (26, 3, false, .invokevirtual 50, 182, 2, 0, [0, 5]), (29, 1, false, .aload_n 0, 0, 0, 0, []),
  (30, 3, false, .getfield 9, 4, 0, 2, [0]), (33, 3, false, .getfield 81, 6, 3, 2, [1]), (36, 1, false, .iload_n 1, 1, 0, 0, []), (37, 1, false, .iconst 3, 3, 0, 0, []),
  (38, 3, false, .invokevirtual 60, 230, 3, 0, [0, 8]), (41, 1, false, .imul, 0, 0, 0, []), (42, 3, false, .if_icmp .ge 7, 49, 0, 0, []), (45, 1, false, .iconst 1, 1, 0, 0, []),
  (46, 3, false, .goto 4, 50, 0, 0, []), (49, 1, false, .iconst 0, 0, 0, 0, []), (50, 1, false, .ireturn, 0, 0, 1, [])]
def k_Row_init : List El := [(0, 1, false, .aload_n 0, 0, 0, 0, []), (1, 3, false, .invokespecial 1, 0, 0, 9, []), (4, 1, false, .aload_n 0, 0, 0, 0, []), (5, 1, false, .iload_n 1, 1, 0, 0, []),
  (6, 3, false, .ifCond .le 7, 13, 0, 0, []), (9, 1, false, .iload_n 1, 1, 0, 0, []), (10, 3, false, .goto 4, 14, 0, 0, []), (13, 1, false, .iconst 0, 0, 0, 0, []),
  (14, 2, false, .newarray .int, 12, 0, 0, []), (16, 3, false, .putfield 7, 5, 0, 2, [0]), (19, 1, false, .return_, 0, 0, 0, [])]
def k_Row_get : List El := [(0, 1, false, .iload_n 1, 1, 0, 0, []), (1, 3, false, .ifCond .lt 21, 22, 0, 0, []), (4, 1, false, .iload_n 1, 1, 0, 0, []), (5, 1, false, .aload_n 0, 0, 0, 0, []),
  (6, 3, false, .getfield 7, 5, 0, 2, [0]), (9, 1, false, .arraylength, 0, 0, 0, []), (10, 3, false, .if_icmp .ge 12, 22, 0, 0, []), (13, 1, false, .aload_n 0, 0, 0, 0, []),
  (14, 3, false, .getfield 7, 5, 0, 2, [0]), (17, 1, false, .iload_n 1, 1, 0, 0, []), (18, 1, false, .iaload, 0, 0, 0, []), (19, 3, false, .goto 4, 23, 0, 0, []),
  (22, 1, false, .iconst 0, 0, 0, 0, []), (23, 1, false, .ireturn, 0, 0, 0, [])]
def k_Row_set : List El := [(0, 1, false, .iload_n 1, 1, 0, 0, []), (1, 3, false, .ifCond .lt 19, 20, 0, 0, []), (4, 1, false, .iload_n 1, 1, 0, 0, []), (5, 1, false, .aload_n 0, 0, 0, 0, []),
  (6, 3, false, .getfield 7, 5, 0, 2, [0]), (9, 1, false, .arraylength, 0, 0, 0, []), (10, 3, false, .if_icmp .ge 10, 20, 0, 0, []), (13, 1, false, .aload_n 0, 0, 0, 0, []),
  (14, 3, false, .getfield 7, 5, 0, 2, [0]), (17, 1, false, .iload_n 1, 1, 0, 0, []), (18, 1, false, .iload_n 2, 2, 0, 0, []), (19, 1, false, .iastore, 0, 0, 0, []),
  (20, 1, false, .return_, 0, 0, 0, [])]
def k_Row_add : List El := [(0, 1, false, .iload_n 1, 1, 0, 0, []), (1, 3, false, .ifCond .lt 22, 23, 0, 0, []), (4, 1, false, .iload_n 1, 1, 0, 0, []), (5, 1, false, .aload_n 0, 0, 0, 0, []),
  (6, 3, false, .getfield 7, 5, 0, 2, [0]), (9, 1, false, .arraylength, 0, 0, 0, []), (10, 3, false, .if_icmp .ge 13, 23, 0, 0, []), (13, 1, false, .aload_n 0, 0, 0, 0, []),
  (14, 3, false, .getfield 7, 5, 0, 2, [0]), (17, 1, false, .iload_n 1, 1, 0, 0, []), (18, 1, false, .dup2, 0, 0, 0, []), (19, 1, false, .iaload, 0, 0, 0, []),
  (20, 1, false, .iload_n 2, 2, 0, 0, []), (21, 1, false, .iadd, 0, 0, 0, []), (22, 1, false, .iastore, 0, 0, 0, []), (23, 1, false, .return_, 0, 0, 0, [])]
def k_Row_setAll : List El := [(0, 1, false, .iconst 0, 0, 0, 0, []), (1, 1, false, .istore_n 2, 2, 0, 0, []), (2, 1, true, .iload_n 2, 2, 0, 0, []), (3, 1, false, .aload_n 0, 0, 0, 0, []),
  (4, 3, false, .getfield 7, 5, 0, 2, [0]), (7, 1, false, .arraylength, 0, 0, 0, []), (8, 3, false, .if_icmp .ge 16, 24, 0, 0, []), (11, 1, false, .aload_n 0, 0, 0, 0, []),
  (12, 3, false, .getfield 7, 5, 0, 2, [0]), (15, 1, false, .iload_n 2, 2, 0, 0, []), (16, 1, false, .iload_n 1, 1, 0, 0, []), (17, 1, false, .iastore, 0, 0, 0, []),
  (18, 3, false, .iinc 2 1, 2, 1, 0, []), (21, 3, false, .goto (-19), 2, 0, 0, []), (24, 1, false, .return_, 0, 0, 0, [])]
def k_Row_copyFrom : List El := [(0, 1, false, .iconst 0, 0, 0, 0, []), (1, 1, false, .istore_n 2, 2, 0, 0, []), (2, 1, true, .iload_n 2, 2, 0, 0, []), (3, 1, false, .aload_n 0, 0, 0, 0, []),
  (4, 3, false, .getfield 7, 5, 0, 2, [0]), (7, 1, false, .arraylength, 0, 0, 0, []), (8, 3, false, .if_icmp .ge 30, 38, 0, 0, []), (11, 1, false, .iload_n 2, 2, 0, 0, []),
  (12, 1, false, .aload_n 1, 1, 0, 0, []), (13, 3, false, .getfield 7, 5, 0, 2, [0]), (16, 1, false, .arraylength, 0, 0, 0, []), (17, 3, false, .if_icmp .ge 21, 38, 0, 0, []),
  (20, 1, false, .aload_n 0, 0, 0, 0, []), (21, 3, false, .getfield 7, 5, 0, 2, [0]), (24, 1, false, .iload_n 2, 2, 0, 0, []), (25, 1, false, .aload_n 1, 1, 0, 0, []),
  (26, 3, false, .getfield 7, 5, 0, 2, [0]), (29, 1, false, .iload_n 2, 2, 0, 0, []), (30, 1, false, .iaload, 0, 0, 0, []), (31, 1, false, .iastore, 0, 0, 0, []),
  (32, 3, false, .iinc 2 1, 2, 1, 0, []), (35, 3, false, .goto (-33), 2, 0, 0, []), (38, 1, false, .return_, 0, 0, 0, [])]
def k_Sky_init : List El := [(0, 1, false, .aload_n 0, 0, 0, 0, []), (1, 3, false, .invokespecial 3, 0, 0, 9, []), (4, 1, false, .aload_n 0, 0, 0, 0, []), (5, 3, false, .new 9, 5, 1, 0, []),
  (8, 1, false, .dup, 0, 0, 0, []), (9, 2, false, .bipush 10, 10, 0, 0, []), (11, 3, false, .invokespecial 13, 181, 2, 1, [0]), (14, 3, false, .putfield 16, 6, 0, 2, [0]),
  (17, 1, false, .aload_n 0, 0, 0, 0, []), (18, 3, false, .new 20, 8, 4, 0, []), (21, 1, false, .dup, 0, 0, 0, []), (22, 2, false, .bipush 9, 9, 0, 0, []),
  (24, 1, false, .iconst 4, 4, 0, 0, []), (25, 3, false, .invokespecial 22, 227, 3, 1, [0]), (28, 3, false, .putfield 25, 6, 1, 2, [0]), (31, 1, false, .aload_n 0, 0, 0, 0, []),
  (32, 3, false, .new 20, 8, 4, 0, []), (35, 1, false, .dup, 0, 0, 0, []), (36, 2, false, .bipush 8, 8, 0, 0, []), (38, 2, false, .bipush 7, 7, 0, 0, []),
  (40, 3, false, .invokespecial 22, 227, 3, 1, [0]), (43, 3, false, .putfield 29, 6, 2, 2, [0]), (46, 1, false, .aload_n 0, 0, 0, 0, []), (47, 3, false, .new 20, 8, 4, 0, []),
  (50, 1, false, .dup, 0, 0, 0, []), (51, 2, false, .bipush 12, 12, 0, 0, []), (53, 2, false, .bipush 6, 6, 0, 0, []), (55, 3, false, .invokespecial 22, 227, 3, 1, [0]),
  (58, 3, false, .putfield 32, 6, 3, 2, [0]), (61, 1, false, .aload_n 0, 0, 0, 0, []), (62, 3, false, .new 20, 8, 4, 0, []), (65, 1, false, .dup, 0, 0, 0, []),
  (66, 1, false, .iconst 3, 3, 0, 0, []), (67, 1, false, .iconst 3, 3, 0, 0, []), (68, 3, false, .invokespecial 22, 227, 3, 1, [0]), (71, 3, false, .putfield 35, 6, 4, 2, [0]),
  (74, 1, false, .aload_n 0, 0, 0, 0, []), (75, 3, false, .new 20, 8, 4, 0, []), (78, 1, false, .dup, 0, 0, 0, []), (79, 2, false, .bipush 8, 8, 0, 0, []),
  (81, 2, false, .bipush 50, 50, 0, 0, []), (83, 3, false, .invokespecial 22, 227, 3, 1, [0]), (86, 3, false, .putfield 38, 6, 5, 2, [0]), (89, 1, false, .aload_n 0, 0, 0, 0, []),
  (90, 3, false, .invokevirtual 41, 188, 1, 0, [0, 6]), (93, 1, false, .return_, 0, 0, 0, [])]
def k_Sky_wipe : List El := [(0, 1, false, .aload_n 0, 0, 0, 0, []), (1, 3, false, .getfield 16, 6, 0, 2, [0]), (4, 1, false, .iconst 0, 0, 0, 0, []), (5, 2, false, .bipush 6, 6, 0, 0, []),
  (7, 3, false, .invokevirtual 44, 183, 3, 0, [0, 5]), (10, 1, false, .aload_n 0, 0, 0, 0, []), (11, 3, false, .getfield 16, 6, 0, 2, [0]), (14, 1, false, .iconst 1, 1, 0, 0, []),
  (15, 1, false, .iconst 5, 5, 0, 0, []), (16, 3, false, .invokevirtual 44, 183, 3, 0, [0, 5]), (19, 1, false, .aload_n 0, 0, 0, 0, []), (20, 3, false, .getfield 16, 6, 0, 2, [0]),
  (23, 1, false, .iconst 5, 5, 0, 0, []), (24, 1, false, .iconst 0, 0, 0, 0, []), (25, 3, false, .invokevirtual 44, 183, 3, 0, [0, 5]), (28, 1, false, .aload_n 0, 0, 0, 0, []),
  (29, 3, false, .getfield 16, 6, 0, 2, [0]), (32, 2, false, .bipush 6, 6, 0, 0, []), (34, 2, false, .bipush 20, 20, 0, 0, []), (36, 3, false, .invokevirtual 44, 183, 3, 0, [0, 5]),
  (39, 1, false, .aload_n 0, 0, 0, 0, []), (40, 3, false, .getfield 16, 6, 0, 2, [0]), (43, 2, false, .bipush 7, 7, 0, 0, []), (45, 3, false, .sipush 999, 999, 0, 0, []),
  (48, 3, false, .invokevirtual 44, 183, 3, 0, [0, 5]), (51, 1, false, .aload_n 0, 0, 0, 0, []), (52, 3, false, .getfield 16, 6, 0, 2, [0]), (55, 2, false, .bipush 8, 8, 0, 0, []),
  (57, 2, false, .bipush 50, 50, 0, 0, []), (59, 3, false, .invokevirtual 44, 183, 3, 0, [0, 5]), (62, 1, false, .aload_n 0, 0, 0, 0, []), (63, 3, false, .getfield 16, 6, 0, 2, [0]),
  (66, 2, false, .bipush 9, 9, 0, 0, []), (68, 1, false, .iconst 1, 1, 0, 0, []), (69, 3, false, .invokevirtual 44, 183, 3, 0, [0, 5]), (72, 1, false, .aload_n 0, 0, 0, 0, []),
  (73, 3, false, .getfield 25, 6, 1, 2, [0]), (76, 3, false, .invokevirtual 47, 237, 1, 0, [0, 8]), (79, 1, false, .aload_n 0, 0, 0, 0, []), (80, 3, false, .getfield 29, 6, 2, 2, [0]),
  (83, 3, false, .invokevirtual 47, 237, 1, 0, [0, 8]), (86, 1, false, .aload_n 0, 0, 0, 0, []), (87, 3, false, .getfield 32, 6, 3, 2, [0]), (90, 3, false, .invokevirtual 47, 237, 1, 0, [0, 8]),
  (93, 1, false, .aload_n 0, 0, 0, 0, []), (94, 3, false, .getfield 35, 6, 4, 2, [0]), (97, 3, false, .invokevirtual 47, 237, 1, 0, [0, 8]), (100, 1, false, .aload_n 0, 0, 0, 0, []),
  (101, 3, false, .getfield 38, 6, 5, 2, [0]), (104, 3, false, .invokevirtual 47, 237, 1, 0, [0, 8]), (107, 1, false, .return_, 0, 0, 0, [])]
def k_Sky_copyFrom : List El := [(0, 1, false, .aload_n 0, 0, 0, 0, []), (1, 3, false, .getfield 16, 6, 0, 2, [0]), (4, 1, false, .aload_n 1, 1, 0, 0, []), (5, 3, false, .getfield 16, 6, 0, 2, [0]),
  (8, 3, false, .invokevirtual 50, 186, 2, 0, [0, 5]), (11, 1, false, .aload_n 0, 0, 0, 0, []), (12, 3, false, .getfield 25, 6, 1, 2, [0]), (15, 1, false, .aload_n 1, 1, 0, 0, []),
  (16, 3, false, .getfield 25, 6, 1, 2, [0]), (19, 3, false, .invokevirtual 54, 239, 2, 0, [0, 8]), (22, 1, false, .aload_n 0, 0, 0, 0, []), (23, 3, false, .getfield 29, 6, 2, 2, [0]),
  (26, 1, false, .aload_n 1, 1, 0, 0, []), (27, 3, false, .getfield 29, 6, 2, 2, [0]), (30, 3, false, .invokevirtual 54, 239, 2, 0, [0, 8]), (33, 1, false, .aload_n 0, 0, 0, 0, []),
  (34, 3, false, .getfield 32, 6, 3, 2, [0]), (37, 1, false, .aload_n 1, 1, 0, 0, []), (38, 3, false, .getfield 32, 6, 3, 2, [0]), (41, 3, false, .invokevirtual 54, 239, 2, 0, [0, 8]),
  (44, 1, false, .aload_n 0, 0, 0, 0, []), (45, 3, false, .getfield 35, 6, 4, 2, [0]), (48, 1, false, .aload_n 1, 1, 0, 0, []), (49, 3, false, .getfield 35, 6, 4, 2, [0]),
  (52, 3, false, .invokevirtual 54, 239, 2, 0, [0, 8]), (55, 1, false, .aload_n 0, 0, 0, 0, []), (56, 3, false, .getfield 38, 6, 5, 2, [0]), (59, 1, false, .aload_n 1, 1, 0, 0, []),
  (60, 3, false, .getfield 38, 6, 5, 2, [0]), (63, 3, false, .invokevirtual 54, 239, 2, 0, [0, 8]), (66, 1, false, .return_, 0, 0, 0, [])]
def k_Sky_fact : List El := [(0, 1, false, .iload_n 1, 1, 0, 0, []), (1, 27, false, .tableswitch 51 2 4 #[27, 35, 43], 52, 2, 0, [28, 36, 44]), (28, 1, false, .aload_n 0, 0, 0, 0, []), (29, 3, false, .getfield 29, 6, 2, 2, [0]),
  (32, 3, false, .invokevirtual 57, 228, 1, 0, [0, 8]), (35, 1, false, .ireturn, 0, 0, 0, []), (36, 1, false, .aload_n 0, 0, 0, 0, []), (37, 3, false, .getfield 32, 6, 3, 2, [0]),
  (40, 3, false, .invokevirtual 57, 228, 1, 0, [0, 8]), (43, 1, false, .ireturn, 0, 0, 0, []), (44, 1, false, .aload_n 0, 0, 0, 0, []), (45, 3, false, .getfield 35, 6, 4, 2, [0]),
  (48, 3, false, .invokevirtual 57, 228, 1, 0, [0, 8]), (51, 1, false, .ireturn, 0, 0, 0, []), (52, 1, false, .aload_n 0, 0, 0, 0, []), (53, 3, false, .getfield 16, 6, 0, 2, [0]),
  (56, 1, false, .iload_n 1, 1, 0, 0, []), (57, 3, false, .invokevirtual 61, 182, 2, 0, [0, 5]), (60, 1, false, .ireturn, 0, 0, 0, [])]
def k_Sky_isInside : List El := [(0, 1, false, .iload_n 1, 1, 0, 0, []), (1, 3, false, .ifCond .lt 35, 36, 0, 0, []), (4, 1, false, .iload_n 1, 1, 0, 0, []), (5, 1, false, .aload_n 0, 0, 0, 0, []),
  (6, 3, false, .getfield 16, 6, 0, 2, [0]), (9, 1, false, .iconst 0, 0, 0, 0, []), (10, 3, false, .invokevirtual 61, 182, 2, 0, [0, 5]), (13, 3, false, .if_icmp .ge 23, 36, 0, 0, []),
  (16, 1, false, .iload_n 2, 2, 0, 0, []), (17, 3, false, .ifCond .lt 19, 36, 0, 0, []), (20, 1, false, .iload_n 2, 2, 0, 0, []), (21, 1, false, .aload_n 0, 0, 0, 0, []),
  (22, 3, false, .getfield 16, 6, 0, 2, [0]), (25, 1, false, .iconst 1, 1, 0, 0, []), (26, 3, false, .invokevirtual 61, 182, 2, 0, [0, 5]), (29, 3, false, .if_icmp .ge 7, 36, 0, 0, []),
  (32, 1, false, .iconst 1, 1, 0, 0, []), (33, 3, false, .goto 4, 37, 0, 0, []), (36, 1, false, .iconst 0, 0, 0, 0, []), (37, 1, false, .ireturn, 0, 0, 1, [])]
def k_Sky_fieldAt : List El := [(0, 1, false, .aload_n 0, 0, 0, 0, []), (1, 3, false, .getfield 32, 6, 3, 2, [0]), (4, 1, false, .iload_n 1, 1, 0, 0, []), (5, 2, false, .bipush 8, 8, 0, 0, []),
  (7, 1, false, .irem, 0, 0, 0, []), (8, 1, false, .iload_n 1, 1, 0, 0, []), (9, 2, false, .bipush 8, 8, 0, 0, []), (11, 1, false, .idiv, 0, 0, 0, []),
  (12, 3, false, .invokevirtual 65, 236, 3, 0, [0, 8]), (15, 1, false, .ireturn, 0, 0, 0, [])]
def k_Sky_glacierAt : List El := [(0, 1, false, .aload_n 0, 0, 0, 0, []), (1, 3, false, .getfield 35, 6, 4, 2, [0]), (4, 1, false, .iload_n 1, 1, 0, 0, []), (5, 2, false, .bipush 8, 8, 0, 0, []),
  (7, 1, false, .irem, 0, 0, 0, []), (8, 1, false, .iload_n 1, 1, 0, 0, []), (9, 2, false, .bipush 8, 8, 0, 0, []), (11, 1, false, .idiv, 0, 0, 0, []),
  (12, 3, false, .invokevirtual 65, 236, 3, 0, [0, 8]), (15, 1, false, .ireturn, 0, 0, 0, [])]
def k_Sky_windAt : List El := [(0, 1, false, .iconst (-1), 1, 0, 1, []), (1, 1, false, .istore_n 3, 3, 0, 0, []), (2, 1, false, .iconst 0, 0, 0, 0, []), (3, 2, false, .istore 4, 4, 0, 0, []),
  (5, 2, true, .iload 4, 4, 0, 0, []), (7, 1, false, .aload_n 0, 0, 0, 0, []), (8, 3, false, .getfield 25, 6, 1, 2, [0]), (11, 3, false, .invokevirtual 57, 228, 1, 0, [0, 8]),
  (14, 3, false, .if_icmp .ge 79, 93, 0, 0, []), (17, 1, false, .aload_n 0, 0, 0, 0, []), (18, 3, false, .getfield 25, 6, 1, 2, [0]), (21, 2, false, .iload 4, 4, 0, 0, []),
  (23, 1, false, .iconst 0, 0, 0, 0, []), (24, 3, false, .invokevirtual 69, 230, 3, 0, [0, 8]), (27, 1, false, .iload_n 1, 1, 0, 0, []), (28, 3, false, .if_icmp .ne 21, 49, 0, 0, []),
  (31, 1, false, .aload_n 0, 0, 0, 0, []), (32, 3, false, .getfield 25, 6, 1, 2, [0]), (35, 2, false, .iload 4, 4, 0, 0, []), (37, 1, false, .iconst 1, 1, 0, 0, []),
  (38, 3, false, .invokevirtual 69, 230, 3, 0, [0, 8]), (41, 1, false, .iload_n 2, 2, 0, 0, []), (42, 3, false, .if_icmp .gt 7, 49, 0, 0, []), (45, 1, false, .iconst 1, 1, 0, 0, []),
  (46, 3, false, .goto 4, 50, 0, 0, []), (49, 1, false, .iconst 0, 0, 0, 0, []), (50, 2, false, .istore 5, 5, 0, 0, []), (52, 2, false, .iload 5, 5, 0, 0, []),
  (54, 3, false, .ifCond .eq 33, 87, 0, 0, []), (57, 1, false, .iload_n 3, 3, 0, 0, []), (58, 1, false, .iconst (-1), 1, 0, 1, []), (59, 3, false, .if_icmp .eq 25, 84, 0, 0, []),
  (62, 1, false, .aload_n 0, 0, 0, 0, []), (63, 3, false, .getfield 25, 6, 1, 2, [0]), (66, 2, false, .iload 4, 4, 0, 0, []), (68, 1, false, .iconst 1, 1, 0, 0, []),
  (69, 3, false, .invokevirtual 69, 230, 3, 0, [0, 8]), (72, 1, false, .aload_n 0, 0, 0, 0, []), (73, 3, false, .getfield 25, 6, 1, 2, [0]), (76, 1, false, .iload_n 3, 3, 0, 0, []),
  (77, 1, false, .iconst 1, 1, 0, 0, []), (78, 3, false, .invokevirtual 69, 230, 3, 0, [0, 8]), (81, 3, false, .if_icmp .lt 6, 87, 0, 0, []), (84, 2, false, .iload 4, 4, 0, 0, []),
  (86, 1, false, .istore_n 3, 3, 0, 0, []), (87, 3, false, .iinc 4 1, 4, 1, 0, []), (90, 3, false, .goto (-85), 5, 0, 0, []), (93, 1, false, .iload_n 3, 3, 0, 0, []),
  (94, 1, false, .ireturn, 0, 0, 0, [])]
def k_Sky_across : List El := [(0, 1, false, .iload_n 1, 1, 0, 0, []), (1, 1, false, .iconst (-1), 1, 0, 1, []), (2, 3, false, .if_icmp .ne 7, 9, 0, 0, []), (5, 1, false, .iconst 0, 0, 0, 0, []),
  (6, 3, false, .goto 14, 20, 0, 0, []), (9, 1, false, .aload_n 0, 0, 0, 0, []), (10, 3, false, .getfield 25, 6, 1, 2, [0]), (13, 1, false, .iload_n 1, 1, 0, 0, []),
  (14, 1, false, .iconst 2, 2, 0, 0, []), (15, 3, false, .invokevirtual 69, 230, 3, 0, [0, 8]), (18, 1, false, .iconst 1, 1, 0, 0, []), (19, 1, false, .isub, 0, 0, 0, []),
  (20, 1, false, .ireturn, 0, 0, 0, [])]
def k_Sky_down : List El := [(0, 1, false, .iload_n 1, 1, 0, 0, []), (1, 1, false, .iconst (-1), 1, 0, 1, []), (2, 3, false, .if_icmp .ne 7, 9, 0, 0, []), (5, 1, false, .iconst 0, 0, 0, 0, []),
  (6, 3, false, .goto 14, 20, 0, 0, []), (9, 1, false, .aload_n 0, 0, 0, 0, []), (10, 3, false, .getfield 25, 6, 1, 2, [0]), (13, 1, false, .iload_n 1, 1, 0, 0, []),
  (14, 1, false, .iconst 3, 3, 0, 0, []), (15, 3, false, .invokevirtual 69, 230, 3, 0, [0, 8]), (18, 1, false, .iconst 1, 1, 0, 0, []), (19, 1, false, .isub, 0, 0, 0, []),
  (20, 1, false, .ireturn, 0, 0, 0, [])]
def k_Sky_layTrails : List El := [(0, 1, false, .iconst 0, 0, 0, 0, []), (1, 1, false, .istore_n 1, 1, 0, 0, []), (2, 1, true, .iload_n 1, 1, 0, 0, []), (3, 1, false, .aload_n 0, 0, 0, 0, []),
  (4, 3, false, .getfield 29, 6, 2, 2, [0]), (7, 3, false, .invokevirtual 57, 228, 1, 0, [0, 8]), (10, 3, false, .if_icmp .ge 14, 24, 0, 0, []), (13, 1, false, .aload_n 0, 0, 0, 0, []),
  (14, 1, false, .iload_n 1, 1, 0, 0, []), (15, 3, false, .invokevirtual 71, 198, 2, 0, [0, 6]), (18, 3, false, .iinc 1 1, 1, 1, 0, []), (21, 3, false, .goto (-19), 2, 0, 0, []),
  (24, 1, false, .return_, 0, 0, 0, [])]
def k_Sky_layTrail : List El := [(0, 1, false, .aload_n 0, 0, 0, 0, []), (1, 3, false, .getfield 29, 6, 2, 2, [0]), (4, 1, false, .iload_n 1, 1, 0, 0, []), (5, 1, false, .iconst 0, 0, 0, 0, []),
  (6, 3, false, .invokevirtual 69, 230, 3, 0, [0, 8]), (9, 1, false, .istore_n 2, 2, 0, 0, []), (10, 1, false, .aload_n 0, 0, 0, 0, []), (11, 3, false, .getfield 29, 6, 2, 2, [0]),
  (14, 1, false, .iload_n 1, 1, 0, 0, []), (15, 1, false, .iconst 1, 1, 0, 0, []), (16, 3, false, .invokevirtual 69, 230, 3, 0, [0, 8]), (19, 1, false, .istore_n 3, 3, 0, 0, []),
  (20, 1, false, .aload_n 0, 0, 0, 0, []), (21, 3, false, .getfield 29, 6, 2, 2, [0]), (24, 1, false, .iload_n 1, 1, 0, 0, []), (25, 1, false, .iconst 3, 3, 0, 0, []),
  (26, 3, false, .invokevirtual 69, 230, 3, 0, [0, 8]), (29, 2, false, .istore 4, 4, 0, 0, []), (31, 1, false, .iconst 0, 0, 0, 0, []), (32, 2, false, .istore 5, 5, 0, 0, []),
  (34, 2, true, .iload 5, 5, 0, 0, []), (36, 2, false, .bipush 50, 50, 0, 0, []), (38, 3, false, .if_icmp .ge 95, 133, 0, 0, []), (41, 2, false, .iload 5, 5, 0, 0, []),
  (43, 2, false, .iload 4, 4, 0, 0, []), (45, 3, false, .if_icmp .le 47, 92, 0, 0, []), (48, 1, false, .aload_n 0, 0, 0, 0, []), (49, 1, false, .iload_n 2, 2, 0, 0, []),
  (50, 1, false, .iload_n 3, 3, 0, 0, []), (51, 3, false, .invokevirtual 74, 191, 3, 0, [0, 6]), (54, 3, false, .ifCond .eq 38, 92, 0, 0, []), (57, 1, false, .aload_n 0, 0, 0, 0, []),
  (58, 1, false, .aload_n 0, 0, 0, 0, []), (59, 3, false, .getfield 29, 6, 2, 2, [0]), (62, 1, false, .iload_n 1, 1, 0, 0, []), (63, 1, false, .iconst 2, 2, 0, 0, []),
  (64, 3, false, .invokevirtual 69, 230, 3, 0, [0, 8]), (67, 2, false, .iload 5, 5, 0, 0, []), (69, 3, false, .invokevirtual 78, 194, 3, 0, [0, 6]), (72, 2, false, .istore 6, 6, 0, 0, []),
  (74, 1, false, .iload_n 2, 2, 0, 0, []), (75, 1, false, .aload_n 0, 0, 0, 0, []), (76, 2, false, .iload 6, 6, 0, 0, []), (78, 3, false, .invokevirtual 81, 195, 2, 0, [0, 6]),
  (81, 1, false, .iadd, 0, 0, 0, []), (82, 1, false, .istore_n 2, 2, 0, 0, []), (83, 1, false, .iload_n 3, 3, 0, 0, []), (84, 1, false, .aload_n 0, 0, 0, 0, []),
  (85, 2, false, .iload 6, 6, 0, 0, []), (87, 3, false, .invokevirtual 84, 196, 2, 0, [0, 6]), (90, 1, false, .iadd, 0, 0, 0, []), (91, 1, false, .istore_n 3, 3, 0, 0, []),
  (92, 1, false, .aload_n 0, 0, 0, 0, []), (93, 3, false, .getfield 38, 6, 5, 2, [0]), (96, 1, false, .iload_n 1, 1, 0, 0, []), (97, 2, false, .iload 5, 5, 0, 0, []),
  (99, 2, false, .iload 5, 5, 0, 0, []), (101, 2, false, .iload 4, 4, 0, 0, []), (103, 3, false, .if_icmp .lt 20, 123, 0, 0, []), (106, 1, false, .aload_n 0, 0, 0, 0, []),
  (107, 1, false, .iload_n 2, 2, 0, 0, []), (108, 1, false, .iload_n 3, 3, 0, 0, []), (109, 3, false, .invokevirtual 74, 191, 3, 0, [0, 6]), (112, 3, false, .ifCond .eq 11, 123, 0, 0, []),
  (115, 1, false, .iload_n 2, 2, 0, 0, []), (116, 1, false, .iload_n 3, 3, 0, 0, []), (117, 3, false, .invokestatic 87, 40, 2, 0, [1]), (120, 3, false, .goto 4, 124, 0, 0, []),
  (123, 1, false, .iconst (-1), 1, 0, 1, []), (124, 3, false, .invokevirtual 90, 231, 4, 0, [0, 8]), (127, 3, false, .iinc 5 1, 5, 1, 0, []), (130, 3, false, .goto (-96), 34, 0, 0, []),
  (133, 1, false, .return_, 0, 0, 0, [])]
def k_Sky_hoursIn : List El := [(0, 1, false, .iconst 0, 0, 0, 0, []), (1, 1, false, .istore_n 3, 3, 0, 0, []), (2, 1, false, .iconst 0, 0, 0, 0, []), (3, 2, false, .istore 4, 4, 0, 0, []),
  (5, 2, true, .iload 4, 4, 0, 0, []), (7, 2, false, .bipush 50, 50, 0, 0, []), (9, 3, false, .if_icmp .ge 26, 35, 0, 0, []), (12, 1, false, .aload_n 0, 0, 0, 0, []),
  (13, 3, false, .getfield 38, 6, 5, 2, [0]), (16, 1, false, .iload_n 1, 1, 0, 0, []), (17, 2, false, .iload 4, 4, 0, 0, []), (19, 3, false, .invokevirtual 69, 230, 3, 0, [0, 8]),
  (22, 1, false, .iload_n 2, 2, 0, 0, []), (23, 3, false, .if_icmp .ne 6, 29, 0, 0, []), (26, 3, false, .iinc 3 1, 3, 1, 0, []), (29, 3, false, .iinc 4 1, 4, 1, 0, []),
  (32, 3, false, .goto (-27), 5, 0, 0, []), (35, 1, false, .iload_n 3, 3, 0, 0, []), (36, 1, false, .ireturn, 0, 0, 0, [])]
def k_Sky_reach : List El := [(0, 1, false, .aload_n 0, 0, 0, 0, []), (1, 3, false, .getfield 29, 6, 2, 2, [0]), (4, 1, false, .iload_n 1, 1, 0, 0, []), (5, 1, false, .iconst 3, 3, 0, 0, []),
  (6, 3, false, .invokevirtual 69, 230, 3, 0, [0, 8]), (9, 1, false, .istore_n 3, 3, 0, 0, []), (10, 1, false, .iload_n 2, 2, 0, 0, []), (11, 1, false, .iload_n 3, 3, 0, 0, []),
  (12, 3, false, .if_icmp .ge 5, 17, 0, 0, []), (15, 1, false, .lconst 0, 0, 0, 0, []), (16, 1, false, .lreturn, 0, 0, 0, []), (17, 1, false, .aload_n 0, 0, 0, 0, []),
  (18, 1, false, .aload_n 0, 0, 0, 0, []), (19, 3, false, .getfield 29, 6, 2, 2, [0]), (22, 1, false, .iload_n 1, 1, 0, 0, []), (23, 1, false, .iconst 0, 0, 0, 0, []),
  (24, 3, false, .invokevirtual 69, 230, 3, 0, [0, 8]), (27, 1, false, .aload_n 0, 0, 0, 0, []), (28, 3, false, .getfield 29, 6, 2, 2, [0]), (31, 1, false, .iload_n 1, 1, 0, 0, []),
  (32, 1, false, .iconst 1, 1, 0, 0, []), (33, 3, false, .invokevirtual 69, 230, 3, 0, [0, 8]), (36, 3, false, .invokevirtual 93, 201, 3, 0, [0, 6]), (39, 2, false, .lstore 4, 4, 0, 0, []),
  (41, 1, false, .iload_n 3, 3, 0, 0, []), (42, 1, false, .iconst 1, 1, 0, 0, []), (43, 1, false, .iadd, 0, 0, 0, []), (44, 2, false, .istore 6, 6, 0, 0, []),
  (46, 2, true, .iload 6, 6, 0, 0, []), (48, 1, false, .iload_n 2, 2, 0, 0, []), (49, 3, false, .if_icmp .gt 39, 88, 0, 0, []), (52, 2, false, .iload 6, 6, 0, 0, []),
  (54, 2, false, .bipush 50, 50, 0, 0, []), (56, 3, false, .if_icmp .ge 32, 88, 0, 0, []), (59, 1, false, .aload_n 0, 0, 0, 0, []), (60, 2, false, .lload 4, 4, 0, 0, []),
  (62, 1, false, .aload_n 0, 0, 0, 0, []), (63, 1, false, .aload_n 0, 0, 0, 0, []), (64, 3, false, .getfield 29, 6, 2, 2, [0]), (67, 1, false, .iload_n 1, 1, 0, 0, []),
  (68, 1, false, .iconst 2, 2, 0, 0, []), (69, 3, false, .invokevirtual 69, 230, 3, 0, [0, 8]), (72, 2, false, .iload 6, 6, 0, 0, []), (74, 3, false, .invokevirtual 78, 194, 3, 0, [0, 6]),
  (77, 3, false, .invokevirtual 97, 202, 3, 0, [0, 6]), (80, 2, false, .lstore 4, 4, 0, 0, []), (82, 3, false, .iinc 6 1, 6, 1, 0, []), (85, 3, false, .goto (-39), 46, 0, 0, []),
  (88, 2, false, .lload 4, 4, 0, 0, []), (90, 1, false, .lreturn, 0, 0, 0, [])]
def k_Sky_bitOf : List El := [(0, 1, false, .aload_n 0, 0, 0, 0, []), (1, 1, false, .iload_n 1, 1, 0, 0, []), (2, 1, false, .iload_n 2, 2, 0, 0, []), (3, 3, false, .invokevirtual 74, 191, 3, 0, [0, 6]),
  (6, 3, false, .ifCond .eq 20, 26, 0, 0, []), (9, 1, false, .lconst 1, 1, 0, 0, []), (10, 1, false, .aload_n 0, 0, 0, 0, []), (11, 3, false, .getfield 16, 6, 0, 2, [0]),
  (14, 1, false, .iconst 0, 0, 0, 0, []), (15, 3, false, .invokevirtual 61, 182, 2, 0, [0, 5]), (18, 1, false, .iload_n 2, 2, 0, 0, []), (19, 1, false, .imul, 0, 0, 0, []),
  (20, 1, false, .iload_n 1, 1, 0, 0, []), (21, 1, false, .iadd, 0, 0, 0, []), (22, 1, false, .lshl, 0, 0, 0, []), (23, 3, false, .goto 4, 27, 0, 0, []),
  (26, 1, false, .lconst 0, 0, 0, 0, []), (27, 1, false, .lreturn, 0, 0, 0, [])]
def k_Sky_spread : List El := [(0, 1, false, .lconst 0, 0, 0, 0, []), (1, 2, false, .lstore 4, 4, 0, 0, []), (3, 1, false, .iconst 0, 0, 0, 0, []), (4, 2, false, .istore 6, 6, 0, 0, []),
  (6, 2, true, .iload 6, 6, 0, 0, []), (8, 1, false, .aload_n 0, 0, 0, 0, []), (9, 3, false, .getfield 16, 6, 0, 2, [0]), (12, 1, false, .iconst 1, 1, 0, 0, []),
  (13, 3, false, .invokevirtual 61, 182, 2, 0, [0, 5]), (16, 3, false, .if_icmp .ge 71, 87, 0, 0, []), (19, 1, false, .iconst 0, 0, 0, 0, []), (20, 2, false, .istore 7, 7, 0, 0, []),
  (22, 2, true, .iload 7, 7, 0, 0, []), (24, 1, false, .aload_n 0, 0, 0, 0, []), (25, 3, false, .getfield 16, 6, 0, 2, [0]), (28, 1, false, .iconst 0, 0, 0, 0, []),
  (29, 3, false, .invokevirtual 61, 182, 2, 0, [0, 5]), (32, 3, false, .if_icmp .ge 49, 81, 0, 0, []), (35, 1, false, .lload_n 1, 1, 0, 0, []), (36, 1, false, .aload_n 0, 0, 0, 0, []),
  (37, 2, false, .iload 7, 7, 0, 0, []), (39, 2, false, .iload 6, 6, 0, 0, []), (41, 3, false, .invokevirtual 93, 201, 3, 0, [0, 6]), (44, 1, false, .land, 0, 0, 0, []),
  (45, 1, false, .lconst 0, 0, 0, 0, []), (46, 1, false, .lcmp, 0, 0, 0, []), (47, 3, false, .ifCond .eq 28, 75, 0, 0, []), (50, 2, false, .lload 4, 4, 0, 0, []),
  (52, 1, false, .aload_n 0, 0, 0, 0, []), (53, 2, false, .iload 7, 7, 0, 0, []), (55, 1, false, .aload_n 0, 0, 0, 0, []), (56, 1, false, .iload_n 3, 3, 0, 0, []),
  (57, 3, false, .invokevirtual 81, 195, 2, 0, [0, 6]), (60, 1, false, .iadd, 0, 0, 0, []), (61, 2, false, .iload 6, 6, 0, 0, []), (63, 1, false, .aload_n 0, 0, 0, 0, []),
  (64, 1, false, .iload_n 3, 3, 0, 0, []), (65, 3, false, .invokevirtual 84, 196, 2, 0, [0, 6]), (68, 1, false, .iadd, 0, 0, 0, []), (69, 3, false, .invokevirtual 101, 203, 3, 0, [0, 6]),
  (72, 1, false, .lor, 0, 0, 0, []), (73, 2, false, .lstore 4, 4, 0, 0, []), (75, 3, false, .iinc 7 1, 7, 1, 0, []), (78, 3, false, .goto (-56), 22, 0, 0, []),
  (81, 3, false, .iinc 6 1, 6, 1, 0, []), (84, 3, false, .goto (-78), 6, 0, 0, []), (87, 2, false, .lload 4, 4, 0, 0, []), (89, 1, false, .lreturn, 0, 0, 0, [])]
def k_Sky_around : List El := [(0, 1, false, .lconst 0, 0, 0, 0, []), (1, 1, false, .lstore_n 3, 3, 0, 0, []), (2, 1, false, .iload_n 2, 2, 0, 0, []), (3, 1, false, .iconst 1, 1, 0, 0, []),
  (4, 1, false, .isub, 0, 0, 0, []), (5, 2, false, .istore 5, 5, 0, 0, []), (7, 2, true, .iload 5, 5, 0, 0, []), (9, 1, false, .iload_n 2, 2, 0, 0, []),
  (10, 1, false, .iconst 1, 1, 0, 0, []), (11, 1, false, .iadd, 0, 0, 0, []), (12, 3, false, .if_icmp .gt 39, 51, 0, 0, []), (15, 1, false, .iload_n 1, 1, 0, 0, []),
  (16, 1, false, .iconst 1, 1, 0, 0, []), (17, 1, false, .isub, 0, 0, 0, []), (18, 2, false, .istore 6, 6, 0, 0, []), (20, 2, true, .iload 6, 6, 0, 0, []),
  (22, 1, false, .iload_n 1, 1, 0, 0, []), (23, 1, false, .iconst 1, 1, 0, 0, []), (24, 1, false, .iadd, 0, 0, 0, []), (25, 3, false, .if_icmp .gt 20, 45, 0, 0, []),
  (28, 1, false, .lload_n 3, 3, 0, 0, []), (29, 1, false, .aload_n 0, 0, 0, 0, []), (30, 2, false, .iload 6, 6, 0, 0, []), (32, 2, false, .iload 5, 5, 0, 0, []),
  (34, 3, false, .invokevirtual 93, 201, 3, 0, [0, 6]), (37, 1, false, .lor, 0, 0, 0, []), (38, 1, false, .lstore_n 3, 3, 0, 0, []), (39, 3, false, .iinc 6 1, 6, 1, 0, []),
  (42, 3, false, .goto (-22), 20, 0, 0, []), (45, 3, false, .iinc 5 1, 5, 1, 0, []), (48, 3, false, .goto (-41), 7, 0, 0, []), (51, 1, false, .lload_n 3, 3, 0, 0, []),
  (52, 1, false, .lreturn, 0, 0, 0, [])]
def k_Sky_dearestIn : List El := [(0, 1, false, .iconst (-1), 1, 0, 1, []), (1, 1, false, .istore_n 3, 3, 0, 0, []), (2, 1, false, .iconst 0, 0, 0, 0, []), (3, 2, false, .istore 4, 4, 0, 0, []),
  (5, 2, true, .iload 4, 4, 0, 0, []), (7, 1, false, .aload_n 0, 0, 0, 0, []), (8, 3, false, .getfield 32, 6, 3, 2, [0]), (11, 3, false, .invokevirtual 57, 228, 1, 0, [0, 8]),
  (14, 3, false, .if_icmp .ge 82, 96, 0, 0, []), (17, 1, false, .lload_n 1, 1, 0, 0, []), (18, 1, false, .aload_n 0, 0, 0, 0, []), (19, 1, false, .aload_n 0, 0, 0, 0, []),
  (20, 3, false, .getfield 32, 6, 3, 2, [0]), (23, 2, false, .iload 4, 4, 0, 0, []), (25, 1, false, .iconst 0, 0, 0, 0, []), (26, 3, false, .invokevirtual 69, 230, 3, 0, [0, 8]),
  (29, 1, false, .aload_n 0, 0, 0, 0, []), (30, 3, false, .getfield 32, 6, 3, 2, [0]), (33, 2, false, .iload 4, 4, 0, 0, []), (35, 1, false, .iconst 1, 1, 0, 0, []),
  (36, 3, false, .invokevirtual 69, 230, 3, 0, [0, 8]), (39, 3, false, .invokevirtual 93, 201, 3, 0, [0, 6]), (42, 1, false, .land, 0, 0, 0, []), (43, 1, false, .lconst 0, 0, 0, 0, []),
  (44, 1, false, .lcmp, 0, 0, 0, []), (45, 3, false, .ifCond .eq 7, 52, 0, 0, []), (48, 1, false, .iconst 1, 1, 0, 0, []), (49, 3, false, .goto 4, 53, 0, 0, []),
  (52, 1, false, .iconst 0, 0, 0, 0, []), (53, 2, false, .istore 5, 5, 0, 0, []), (55, 2, false, .iload 5, 5, 0, 0, []), (57, 3, false, .ifCond .eq 33, 90, 0, 0, []),
  (60, 1, false, .iload_n 3, 3, 0, 0, []), (61, 1, false, .iconst (-1), 1, 0, 1, []), (62, 3, false, .if_icmp .eq 25, 87, 0, 0, []), (65, 1, false, .aload_n 0, 0, 0, 0, []),
  (66, 3, false, .getfield 32, 6, 3, 2, [0]), (69, 2, false, .iload 4, 4, 0, 0, []), (71, 1, false, .iconst 4, 4, 0, 0, []), (72, 3, false, .invokevirtual 69, 230, 3, 0, [0, 8]),
  (75, 1, false, .aload_n 0, 0, 0, 0, []), (76, 3, false, .getfield 32, 6, 3, 2, [0]), (79, 1, false, .iload_n 3, 3, 0, 0, []), (80, 1, false, .iconst 4, 4, 0, 0, []),
  (81, 3, false, .invokevirtual 69, 230, 3, 0, [0, 8]), (84, 3, false, .if_icmp .le 6, 90, 0, 0, []), (87, 2, false, .iload 4, 4, 0, 0, []), (89, 1, false, .istore_n 3, 3, 0, 0, []),
  (90, 3, false, .iinc 4 1, 4, 1, 0, []), (93, 3, false, .goto (-88), 5, 0, 0, []), (96, 1, false, .iload_n 3, 3, 0, 0, []), (97, 1, false, .ireturn, 0, 0, 0, [])]
def k_SkyReader_init : List El := [(0, 1, false, .aload_n 0, 0, 0, 0, []), (1, 3, false, .invokespecial 3, 0, 0, 9, []), (4, 1, false, .aload_n 0, 0, 0, 0, []), (5, 1, false, .aload_n 1, 1, 0, 0, []),
  (6, 3, false, .putfield 9, 7, 0, 2, [0]), (9, 1, false, .aload_n 0, 0, 0, 0, []), (10, 3, false, .new 15, 6, 6, 0, []), (13, 1, false, .dup, 0, 0, 0, []),
  (14, 3, false, .invokespecial 17, 187, 1, 1, [0]), (17, 3, false, .putfield 18, 7, 1, 2, [0]), (20, 1, false, .aload_n 0, 0, 0, 0, []), (21, 1, false, .iconst (-1), 1, 0, 1, []),
  (22, 3, false, .putfield 22, 7, 5, 0, [0]), (25, 1, false, .return_, 0, 0, 0, [])]
def k_SkyReader_draft : List El := [(0, 1, false, .aload_n 0, 0, 0, 0, []), (1, 3, false, .getfield 18, 7, 1, 2, [0]), (4, 1, false, .areturn, 0, 0, 0, [])]
def k_SkyReader_faultPlace : List El := [(0, 1, false, .aload_n 0, 0, 0, 0, []), (1, 3, false, .getfield 22, 7, 5, 0, [0]), (4, 1, false, .ireturn, 0, 0, 0, [])]
def k_SkyReader_read : List El := [(0, 1, false, .aload_n 0, 0, 0, 0, []), (1, 1, false, .iload_n 1, 1, 0, 0, []), (2, 3, false, .putfield 26, 7, 2, 0, [0]), (5, 1, false, .aload_n 0, 0, 0, 0, []),
  (6, 1, false, .iconst 0, 0, 0, 0, []), (7, 3, false, .putfield 29, 7, 3, 0, [0]), (10, 1, false, .aload_n 0, 0, 0, 0, []), (11, 1, false, .iconst 0, 0, 0, 0, []),
  (12, 3, false, .putfield 32, 7, 4, 0, [0]), (15, 1, false, .aload_n 0, 0, 0, 0, []), (16, 1, false, .iconst (-1), 1, 0, 1, []), (17, 3, false, .putfield 22, 7, 5, 0, [0]),
  (20, 1, false, .aload_n 0, 0, 0, 0, []), (21, 3, false, .getfield 18, 7, 1, 2, [0]), (24, 3, false, .invokevirtual 35, 188, 1, 0, [0, 6]), (27, 1, false, .aload_n 0, 0, 0, 0, []),
  (28, 3, false, .invokevirtual 38, 222, 1, 0, [0, 7]), (31, 1, false, .iconst 0, 0, 0, 0, []), (32, 1, false, .istore_n 2, 2, 0, 0, []), (33, 1, true, .iload_n 2, 2, 0, 0, []),
  (34, 2, false, .bipush 60, 60, 0, 0, []), (36, 3, false, .if_icmp .gt 36, 72, 0, 0, []), (39, 1, false, .aload_n 0, 0, 0, 0, []), (40, 3, false, .getfield 32, 7, 4, 0, [0]),
  (43, 3, false, .ifCond .ne 29, 72, 0, 0, []), (46, 1, false, .aload_n 0, 0, 0, 0, []), (47, 3, false, .getfield 29, 7, 3, 0, [0]), (50, 1, false, .aload_n 0, 0, 0, 0, []),
  (51, 3, false, .getfield 26, 7, 2, 0, [0]), (54, 3, false, .if_icmp .ge 18, 72, 0, 0, []), (57, 1, false, .aload_n 0, 0, 0, 0, []), (58, 1, false, .iload_n 2, 2, 0, 0, []),
  (59, 3, false, .invokevirtual 41, 210, 2, 0, [0, 7]), (62, 1, false, .aload_n 0, 0, 0, 0, []), (63, 3, false, .invokevirtual 38, 222, 1, 0, [0, 7]), (66, 3, false, .iinc 2 1, 2, 1, 0, []),
  (69, 3, false, .goto (-36), 33, 0, 0, []), (72, 1, false, .aload_n 0, 0, 0, 0, []), (73, 3, false, .getfield 32, 7, 4, 0, [0]), (76, 3, false, .ifCond .ne 10, 86, 0, 0, []),
  (79, 1, false, .aload_n 0, 0, 0, 0, []), (80, 3, false, .getfield 18, 7, 1, 2, [0]), (83, 3, false, .invokevirtual 45, 197, 1, 0, [0, 6]), (86, 1, false, .aload_n 0, 0, 0, 0, []),
  (87, 3, false, .getfield 32, 7, 4, 0, [0]), (90, 1, false, .ireturn, 0, 0, 0, [])]
def k_SkyReader_fail : List El := [(0, 1, false, .aload_n 0, 0, 0, 0, []), (1, 3, false, .getfield 32, 7, 4, 0, [0]), (4, 3, false, .ifCond .ne 13, 17, 0, 0, []), (7, 1, false, .aload_n 0, 0, 0, 0, []),
  (8, 1, false, .iload_n 1, 1, 0, 0, []), (9, 3, false, .putfield 32, 7, 4, 0, [0]), (12, 1, false, .aload_n 0, 0, 0, 0, []), (13, 1, false, .iload_n 2, 2, 0, 0, []),
  (14, 3, false, .putfield 22, 7, 5, 0, [0]), (17, 1, false, .return_, 0, 0, 0, [])]
def k_SkyReader_readClause : List El := [(0, 1, false, .aload_n 0, 0, 0, 0, []), (1, 3, false, .getfield 29, 7, 3, 0, [0]), (4, 1, false, .istore_n 2, 2, 0, 0, []), (5, 1, false, .aload_n 0, 0, 0, 0, []),
  (6, 3, false, .invokevirtual 48, 223, 1, 0, [0, 7]), (9, 1, false, .istore_n 3, 3, 0, 0, []), (10, 1, false, .iload_n 3, 3, 0, 0, []), (11, 1, false, .iconst (-1), 1, 0, 1, []),
  (12, 3, false, .if_icmp .ne 12, 24, 0, 0, []), (15, 1, false, .aload_n 0, 0, 0, 0, []), (16, 1, false, .iconst 1, 1, 0, 0, []), (17, 1, false, .iload_n 2, 2, 0, 0, []),
  (18, 3, false, .invokevirtual 52, 209, 3, 0, [0, 7]), (21, 3, false, .goto 52, 73, 0, 0, []), (24, 1, false, .iload_n 1, 1, 0, 0, []), (25, 2, false, .bipush 60, 60, 0, 0, []),
  (27, 3, false, .if_icmp .ge 11, 38, 0, 0, []), (30, 1, false, .aload_n 0, 0, 0, 0, []), (31, 1, false, .iload_n 3, 3, 0, 0, []), (32, 3, false, .invokevirtual 56, 211, 2, 0, [0, 7]),
  (35, 3, false, .ifCond .eq 12, 47, 0, 0, []), (38, 1, false, .aload_n 0, 0, 0, 0, []), (39, 1, false, .iconst 3, 3, 0, 0, []), (40, 1, false, .iload_n 2, 2, 0, 0, []),
  (41, 3, false, .invokevirtual 52, 209, 3, 0, [0, 7]), (44, 3, false, .goto 29, 73, 0, 0, []), (47, 1, false, .iload_n 3, 3, 0, 0, []), (48, 3, false, .ifCond .ne 16, 64, 0, 0, []),
  (51, 1, false, .iload_n 1, 1, 0, 0, []), (52, 3, false, .ifCond .le 12, 64, 0, 0, []), (55, 1, false, .aload_n 0, 0, 0, 0, []), (56, 1, false, .iconst 4, 4, 0, 0, []),
  (57, 1, false, .iload_n 2, 2, 0, 0, []), (58, 3, false, .invokevirtual 52, 209, 3, 0, [0, 7]), (61, 3, false, .goto 12, 73, 0, 0, []), (64, 1, false, .aload_n 0, 0, 0, 0, []),
  (65, 1, false, .iload_n 3, 3, 0, 0, []), (66, 3, false, .invokevirtual 60, 212, 2, 0, [0, 7]), (69, 1, false, .aload_n 0, 0, 0, 0, []), (70, 3, false, .invokevirtual 63, 226, 1, 0, [0, 7]),
  (73, 1, false, .return_, 0, 0, 0, [])]
def k_SkyReader_isTooMany : List El := [(0, 1, false, .iload_n 1, 1, 0, 0, []), (1, 35, false, .tableswitch 79 1 5 #[35, 46, 79, 57, 68], 80, 1, 0, [36, 47, 80, 58, 69]), (36, 1, false, .aload_n 0, 0, 0, 0, []), (37, 3, false, .getfield 18, 7, 1, 2, [0]),
  (40, 3, false, .getfield 66, 6, 1, 2, [1]), (43, 3, false, .invokevirtual 70, 229, 1, 0, [0, 8]), (46, 1, false, .ireturn, 0, 0, 1, []), (47, 1, false, .aload_n 0, 0, 0, 0, []),
  (48, 3, false, .getfield 18, 7, 1, 2, [0]), (51, 3, false, .getfield 76, 6, 2, 2, [1]), (54, 3, false, .invokevirtual 70, 229, 1, 0, [0, 8]), (57, 1, false, .ireturn, 0, 0, 1, []),
  (58, 1, false, .aload_n 0, 0, 0, 0, []), (59, 3, false, .getfield 18, 7, 1, 2, [0]), (62, 3, false, .getfield 79, 6, 3, 2, [1]), (65, 3, false, .invokevirtual 70, 229, 1, 0, [0, 8]),
  (68, 1, false, .ireturn, 0, 0, 1, []), (69, 1, false, .aload_n 0, 0, 0, 0, []), (70, 3, false, .getfield 18, 7, 1, 2, [0]), (73, 3, false, .getfield 82, 6, 4, 2, [1]),
  (76, 3, false, .invokevirtual 70, 229, 1, 0, [0, 8]), (79, 1, false, .ireturn, 0, 0, 1, []), (80, 1, false, .iconst 0, 0, 0, 0, []), (81, 1, false, .ireturn, 0, 0, 1, [])]
def k_SkyReader_readNumbers : List El := [(0, 1, false, .iload_n 1, 1, 0, 0, []), (1, 55, false, .tableswitch 184 0 9 #[55, 62, 69, 76, 83, 90, 97, 117, 139, 162], 185, 0, 0, [56, 63, 70, 77, 84, 91, 98, 118, 140, 163]), (56, 1, false, .aload_n 0, 0, 0, 0, []), (57, 3, false, .invokevirtual 85, 214, 1, 0, [0, 7]),
  (60, 3, false, .goto 144, 204, 0, 0, []), (63, 1, false, .aload_n 0, 0, 0, 0, []), (64, 3, false, .invokevirtual 88, 215, 1, 0, [0, 7]), (67, 3, false, .goto 137, 204, 0, 0, []),
  (70, 1, false, .aload_n 0, 0, 0, 0, []), (71, 3, false, .invokevirtual 91, 216, 1, 0, [0, 7]), (74, 3, false, .goto 130, 204, 0, 0, []), (77, 1, false, .aload_n 0, 0, 0, 0, []),
  (78, 3, false, .invokevirtual 94, 217, 1, 0, [0, 7]), (81, 3, false, .goto 123, 204, 0, 0, []), (84, 1, false, .aload_n 0, 0, 0, 0, []), (85, 3, false, .invokevirtual 97, 218, 1, 0, [0, 7]),
  (88, 3, false, .goto 116, 204, 0, 0, []), (91, 1, false, .aload_n 0, 0, 0, 0, []), (92, 3, false, .invokevirtual 100, 219, 1, 0, [0, 7]), (95, 3, false, .goto 109, 204, 0, 0, []),
  (98, 1, false, .aload_n 0, 0, 0, 0, []), (99, 3, false, .getfield 18, 7, 1, 2, [0]), (102, 3, false, .getfield 103, 6, 0, 2, [1]), (105, 1, false, .iconst 5, 5, 0, 0, []),
  (106, 1, false, .aload_n 0, 0, 0, 0, []), (107, 1, false, .iconst 0, 0, 0, 0, []), (108, 1, false, .iconst 2, 2, 0, 0, []), (109, 3, false, .invokevirtual 106, 225, 3, 0, [0, 7]),
  (112, 3, false, .invokevirtual 110, 183, 3, 0, [0, 5]), (115, 3, false, .goto 89, 204, 0, 0, []), (118, 1, false, .aload_n 0, 0, 0, 0, []), (119, 3, false, .getfield 18, 7, 1, 2, [0]),
  (122, 3, false, .getfield 103, 6, 0, 2, [1]), (125, 2, false, .bipush 6, 6, 0, 0, []), (127, 1, false, .aload_n 0, 0, 0, 0, []), (128, 1, false, .iconst 1, 1, 0, 0, []),
  (129, 2, false, .bipush 99, 99, 0, 0, []), (131, 3, false, .invokevirtual 106, 225, 3, 0, [0, 7]), (134, 3, false, .invokevirtual 110, 183, 3, 0, [0, 5]), (137, 3, false, .goto 67, 204, 0, 0, []),
  (140, 1, false, .aload_n 0, 0, 0, 0, []), (141, 3, false, .getfield 18, 7, 1, 2, [0]), (144, 3, false, .getfield 103, 6, 0, 2, [1]), (147, 2, false, .bipush 7, 7, 0, 0, []),
  (149, 1, false, .aload_n 0, 0, 0, 0, []), (150, 1, false, .iconst 1, 1, 0, 0, []), (151, 3, false, .sipush 999, 999, 0, 0, []), (154, 3, false, .invokevirtual 106, 225, 3, 0, [0, 7]),
  (157, 3, false, .invokevirtual 110, 183, 3, 0, [0, 5]), (160, 3, false, .goto 44, 204, 0, 0, []), (163, 1, false, .aload_n 0, 0, 0, 0, []), (164, 3, false, .getfield 18, 7, 1, 2, [0]),
  (167, 3, false, .getfield 103, 6, 0, 2, [1]), (170, 2, false, .bipush 8, 8, 0, 0, []), (172, 1, false, .aload_n 0, 0, 0, 0, []), (173, 1, false, .iconst 1, 1, 0, 0, []),
  (174, 2, false, .bipush 99, 99, 0, 0, []), (176, 3, false, .invokevirtual 106, 225, 3, 0, [0, 7]), (179, 3, false, .invokevirtual 110, 183, 3, 0, [0, 5]), (182, 3, false, .goto 22, 204, 0, 0, []),
  (185, 1, false, .aload_n 0, 0, 0, 0, []), (186, 3, false, .getfield 18, 7, 1, 2, [0]), (189, 3, false, .getfield 103, 6, 0, 2, [1]), (192, 2, false, .bipush 9, 9, 0, 0, []),
  (194, 1, false, .aload_n 0, 0, 0, 0, []), (195, 1, false, .iconst 0, 0, 0, 0, []), (196, 2, false, .bipush 9, 9, 0, 0, []), (198, 3, false, .invokevirtual 106, 225, 3, 0, [0, 7]),
  (201, 3, false, .invokevirtual 110, 183, 3, 0, [0, 5]), (204, 1, false, .return_, 0, 0, 0, [])]
def k_SkyReader_wordAt : List El := [(0, 1, false, .iload_n 0, 0, 0, 0, []), (1, 55, false, .tableswitch 85 0 9 #[55, 58, 61, 64, 67, 70, 73, 76, 79, 82], 86, 0, 0, [56, 59, 62, 65, 68, 71, 74, 77, 80, 83]), (56, 2, false, .ldc 115, 14, 0, 1, []), (58, 1, false, .areturn, 0, 0, 0, []),
  (59, 2, false, .ldc 117, 15, 0, 1, []), (61, 1, false, .areturn, 0, 0, 0, []), (62, 2, false, .ldc 119, 2, 0, 1, []), (64, 1, false, .areturn, 0, 0, 0, []),
  (65, 2, false, .ldc 121, 13, 0, 1, []), (67, 1, false, .areturn, 0, 0, 0, []), (68, 2, false, .ldc 123, 3, 0, 1, []), (70, 1, false, .areturn, 0, 0, 0, []),
  (71, 2, false, .ldc 125, 5, 0, 1, []), (73, 1, false, .areturn, 0, 0, 0, []), (74, 2, false, .ldc 127, 8, 0, 1, []), (76, 1, false, .areturn, 0, 0, 0, []),
  (77, 2, false, .ldc 129, 12, 0, 1, []), (79, 1, false, .areturn, 0, 0, 0, []), (80, 2, false, .ldc 131, 7, 0, 1, []), (82, 1, false, .areturn, 0, 0, 0, []),
  (83, 2, false, .ldc 133, 6, 0, 1, []), (85, 1, false, .areturn, 0, 0, 0, []), (86, 2, false, .ldc 135, 4, 0, 1, []), (88, 1, false, .areturn, 0, 0, 0, [])]
def k_SkyReader_readSize : List El := [(0, 1, false, .aload_n 0, 0, 0, 0, []), (1, 3, false, .getfield 18, 7, 1, 2, [0]), (4, 3, false, .getfield 103, 6, 0, 2, [1]), (7, 1, false, .iconst 0, 0, 0, 0, []),
  (8, 1, false, .aload_n 0, 0, 0, 0, []), (9, 1, false, .iconst 2, 2, 0, 0, []), (10, 2, false, .bipush 8, 8, 0, 0, []), (12, 3, false, .invokevirtual 106, 225, 3, 0, [0, 7]),
  (15, 3, false, .invokevirtual 110, 183, 3, 0, [0, 5]), (18, 1, false, .aload_n 0, 0, 0, 0, []), (19, 3, false, .getfield 18, 7, 1, 2, [0]), (22, 3, false, .getfield 103, 6, 0, 2, [1]),
  (25, 1, false, .iconst 1, 1, 0, 0, []), (26, 1, false, .aload_n 0, 0, 0, 0, []), (27, 1, false, .iconst 2, 2, 0, 0, []), (28, 2, false, .bipush 8, 8, 0, 0, []),
  (30, 3, false, .invokevirtual 106, 225, 3, 0, [0, 7]), (33, 3, false, .invokevirtual 110, 183, 3, 0, [0, 5]), (36, 1, false, .return_, 0, 0, 0, [])]
def k_SkyReader_readWind : List El := [(0, 1, false, .aload_n 0, 0, 0, 0, []), (1, 3, false, .getfield 18, 7, 1, 2, [0]), (4, 3, false, .getfield 66, 6, 1, 2, [1]), (7, 3, false, .invokevirtual 137, 233, 1, 0, [0, 8]),
  (10, 1, false, .istore_n 1, 1, 0, 0, []), (11, 1, false, .aload_n 0, 0, 0, 0, []), (12, 3, false, .getfield 18, 7, 1, 2, [0]), (15, 3, false, .getfield 66, 6, 1, 2, [1]),
  (18, 1, false, .iload_n 1, 1, 0, 0, []), (19, 1, false, .iconst 0, 0, 0, 0, []), (20, 1, false, .aload_n 0, 0, 0, 0, []), (21, 1, false, .iconst 0, 0, 0, 0, []),
  (22, 1, false, .iconst 2, 2, 0, 0, []), (23, 3, false, .invokevirtual 106, 225, 3, 0, [0, 7]), (26, 3, false, .invokevirtual 140, 231, 4, 0, [0, 8]), (29, 1, false, .aload_n 0, 0, 0, 0, []),
  (30, 3, false, .getfield 18, 7, 1, 2, [0]), (33, 3, false, .getfield 66, 6, 1, 2, [1]), (36, 1, false, .iload_n 1, 1, 0, 0, []), (37, 1, false, .iconst 1, 1, 0, 0, []),
  (38, 1, false, .aload_n 0, 0, 0, 0, []), (39, 1, false, .iconst 0, 0, 0, 0, []), (40, 2, false, .bipush 49, 49, 0, 0, []), (42, 3, false, .invokevirtual 106, 225, 3, 0, [0, 7]),
  (45, 3, false, .invokevirtual 140, 231, 4, 0, [0, 8]), (48, 1, false, .aload_n 0, 0, 0, 0, []), (49, 3, false, .getfield 18, 7, 1, 2, [0]), (52, 3, false, .getfield 66, 6, 1, 2, [1]),
  (55, 1, false, .iload_n 1, 1, 0, 0, []), (56, 1, false, .iconst 2, 2, 0, 0, []), (57, 1, false, .aload_n 0, 0, 0, 0, []), (58, 1, false, .iconst 0, 0, 0, 0, []),
  (59, 1, false, .iconst 2, 2, 0, 0, []), (60, 3, false, .invokevirtual 106, 225, 3, 0, [0, 7]), (63, 3, false, .invokevirtual 140, 231, 4, 0, [0, 8]), (66, 1, false, .aload_n 0, 0, 0, 0, []),
  (67, 3, false, .getfield 18, 7, 1, 2, [0]), (70, 3, false, .getfield 66, 6, 1, 2, [1]), (73, 1, false, .iload_n 1, 1, 0, 0, []), (74, 1, false, .iconst 3, 3, 0, 0, []),
  (75, 1, false, .aload_n 0, 0, 0, 0, []), (76, 1, false, .iconst 0, 0, 0, 0, []), (77, 1, false, .iconst 2, 2, 0, 0, []), (78, 3, false, .invokevirtual 106, 225, 3, 0, [0, 7]),
  (81, 3, false, .invokevirtual 140, 231, 4, 0, [0, 8]), (84, 1, false, .return_, 0, 0, 0, [])]
def k_SkyReader_readCloud : List El := [(0, 1, false, .aload_n 0, 0, 0, 0, []), (1, 3, false, .getfield 18, 7, 1, 2, [0]), (4, 3, false, .getfield 76, 6, 2, 2, [1]), (7, 3, false, .invokevirtual 137, 233, 1, 0, [0, 8]),
  (10, 1, false, .istore_n 1, 1, 0, 0, []), (11, 1, false, .aload_n 0, 0, 0, 0, []), (12, 3, false, .getfield 18, 7, 1, 2, [0]), (15, 3, false, .getfield 76, 6, 2, 2, [1]),
  (18, 1, false, .iload_n 1, 1, 0, 0, []), (19, 1, false, .iconst 0, 0, 0, 0, []), (20, 1, false, .aload_n 0, 0, 0, 0, []), (21, 1, false, .iconst 0, 0, 0, 0, []),
  (22, 1, false, .aload_n 0, 0, 0, 0, []), (23, 3, false, .invokevirtual 143, 220, 1, 0, [0, 7]), (26, 3, false, .invokevirtual 106, 225, 3, 0, [0, 7]), (29, 3, false, .invokevirtual 140, 231, 4, 0, [0, 8]),
  (32, 1, false, .aload_n 0, 0, 0, 0, []), (33, 3, false, .getfield 18, 7, 1, 2, [0]), (36, 3, false, .getfield 76, 6, 2, 2, [1]), (39, 1, false, .iload_n 1, 1, 0, 0, []),
  (40, 1, false, .iconst 1, 1, 0, 0, []), (41, 1, false, .aload_n 0, 0, 0, 0, []), (42, 1, false, .iconst 0, 0, 0, 0, []), (43, 1, false, .aload_n 0, 0, 0, 0, []),
  (44, 3, false, .invokevirtual 146, 221, 1, 0, [0, 7]), (47, 3, false, .invokevirtual 106, 225, 3, 0, [0, 7]), (50, 3, false, .invokevirtual 140, 231, 4, 0, [0, 8]), (53, 1, false, .aload_n 0, 0, 0, 0, []),
  (54, 3, false, .getfield 18, 7, 1, 2, [0]), (57, 3, false, .getfield 76, 6, 2, 2, [1]), (60, 1, false, .iload_n 1, 1, 0, 0, []), (61, 1, false, .iconst 2, 2, 0, 0, []),
  (62, 1, false, .aload_n 0, 0, 0, 0, []), (63, 1, false, .iconst 0, 0, 0, 0, []), (64, 1, false, .iconst 2, 2, 0, 0, []), (65, 3, false, .invokevirtual 106, 225, 3, 0, [0, 7]),
  (68, 3, false, .invokevirtual 140, 231, 4, 0, [0, 8]), (71, 1, false, .aload_n 0, 0, 0, 0, []), (72, 3, false, .getfield 18, 7, 1, 2, [0]), (75, 3, false, .getfield 76, 6, 2, 2, [1]),
  (78, 1, false, .iload_n 1, 1, 0, 0, []), (79, 1, false, .iconst 3, 3, 0, 0, []), (80, 1, false, .aload_n 0, 0, 0, 0, []), (81, 1, false, .iconst 0, 0, 0, 0, []),
  (82, 2, false, .bipush 49, 49, 0, 0, []), (84, 3, false, .invokevirtual 106, 225, 3, 0, [0, 7]), (87, 3, false, .invokevirtual 140, 231, 4, 0, [0, 8]), (90, 1, false, .aload_n 0, 0, 0, 0, []),
  (91, 3, false, .getfield 18, 7, 1, 2, [0]), (94, 3, false, .getfield 76, 6, 2, 2, [1]), (97, 1, false, .iload_n 1, 1, 0, 0, []), (98, 1, false, .iconst 4, 4, 0, 0, []),
  (99, 1, false, .aload_n 0, 0, 0, 0, []), (100, 1, false, .iconst 1, 1, 0, 0, []), (101, 3, false, .sipush 999, 999, 0, 0, []), (104, 3, false, .invokevirtual 106, 225, 3, 0, [0, 7]),
  (107, 3, false, .invokevirtual 140, 231, 4, 0, [0, 8]), (110, 1, false, .aload_n 0, 0, 0, 0, []), (111, 3, false, .getfield 18, 7, 1, 2, [0]), (114, 3, false, .getfield 76, 6, 2, 2, [1]),
  (117, 1, false, .iload_n 1, 1, 0, 0, []), (118, 1, false, .iconst 5, 5, 0, 0, []), (119, 2, false, .bipush 7, 7, 0, 0, []), (121, 3, false, .invokevirtual 140, 231, 4, 0, [0, 8]),
  (124, 1, false, .aload_n 0, 0, 0, 0, []), (125, 3, false, .getfield 18, 7, 1, 2, [0]), (128, 3, false, .getfield 76, 6, 2, 2, [1]), (131, 1, false, .iload_n 1, 1, 0, 0, []),
  (132, 2, false, .bipush 6, 6, 0, 0, []), (134, 3, false, .sipush 1000, 1000, 0, 0, []), (137, 3, false, .invokevirtual 140, 231, 4, 0, [0, 8]), (140, 1, false, .return_, 0, 0, 0, [])]
def k_SkyReader_readSeen : List El := [(0, 1, false, .aload_n 0, 0, 0, 0, []), (1, 1, false, .iconst 0, 0, 0, 0, []), (2, 1, false, .aload_n 0, 0, 0, 0, []), (3, 3, false, .getfield 18, 7, 1, 2, [0]),
  (6, 3, false, .getfield 76, 6, 2, 2, [1]), (9, 3, false, .invokevirtual 149, 228, 1, 0, [0, 8]), (12, 1, false, .iconst 1, 1, 0, 0, []), (13, 1, false, .isub, 0, 0, 0, []),
  (14, 3, false, .invokevirtual 106, 225, 3, 0, [0, 7]), (17, 1, false, .istore_n 1, 1, 0, 0, []), (18, 1, false, .aload_n 0, 0, 0, 0, []), (19, 1, false, .iconst 0, 0, 0, 0, []),
  (20, 2, false, .bipush 6, 6, 0, 0, []), (22, 3, false, .invokevirtual 106, 225, 3, 0, [0, 7]), (25, 1, false, .istore_n 2, 2, 0, 0, []), (26, 1, false, .aload_n 0, 0, 0, 0, []),
  (27, 1, false, .iconst 0, 0, 0, 0, []), (28, 3, false, .sipush 999, 999, 0, 0, []), (31, 3, false, .invokevirtual 106, 225, 3, 0, [0, 7]), (34, 1, false, .istore_n 3, 3, 0, 0, []),
  (35, 1, false, .iload_n 3, 3, 0, 0, []), (36, 1, false, .aload_n 0, 0, 0, 0, []), (37, 3, false, .getfield 18, 7, 1, 2, [0]), (40, 3, false, .getfield 76, 6, 2, 2, [1]),
  (43, 1, false, .iload_n 1, 1, 0, 0, []), (44, 2, false, .bipush 6, 6, 0, 0, []), (46, 3, false, .invokevirtual 152, 230, 3, 0, [0, 8]), (49, 3, false, .if_icmp .ge 30, 79, 0, 0, []),
  (52, 1, false, .aload_n 0, 0, 0, 0, []), (53, 3, false, .getfield 18, 7, 1, 2, [0]), (56, 3, false, .getfield 76, 6, 2, 2, [1]), (59, 1, false, .iload_n 1, 1, 0, 0, []),
  (60, 1, false, .iconst 5, 5, 0, 0, []), (61, 1, false, .iload_n 2, 2, 0, 0, []), (62, 3, false, .invokevirtual 140, 231, 4, 0, [0, 8]), (65, 1, false, .aload_n 0, 0, 0, 0, []),
  (66, 3, false, .getfield 18, 7, 1, 2, [0]), (69, 3, false, .getfield 76, 6, 2, 2, [1]), (72, 1, false, .iload_n 1, 1, 0, 0, []), (73, 2, false, .bipush 6, 6, 0, 0, []),
  (75, 1, false, .iload_n 3, 3, 0, 0, []), (76, 3, false, .invokevirtual 140, 231, 4, 0, [0, 8]), (79, 1, false, .return_, 0, 0, 0, [])]
def k_SkyReader_readField : List El := [(0, 1, false, .aload_n 0, 0, 0, 0, []), (1, 1, false, .iconst 0, 0, 0, 0, []), (2, 1, false, .aload_n 0, 0, 0, 0, []), (3, 3, false, .invokevirtual 143, 220, 1, 0, [0, 7]),
  (6, 3, false, .invokevirtual 106, 225, 3, 0, [0, 7]), (9, 1, false, .istore_n 1, 1, 0, 0, []), (10, 1, false, .aload_n 0, 0, 0, 0, []), (11, 1, false, .iconst 0, 0, 0, 0, []),
  (12, 1, false, .aload_n 0, 0, 0, 0, []), (13, 3, false, .invokevirtual 146, 221, 1, 0, [0, 7]), (16, 3, false, .invokevirtual 106, 225, 3, 0, [0, 7]), (19, 1, false, .istore_n 2, 2, 0, 0, []),
  (20, 1, false, .aload_n 0, 0, 0, 0, []), (21, 3, false, .getfield 18, 7, 1, 2, [0]), (24, 3, false, .getfield 79, 6, 3, 2, [1]), (27, 1, false, .iload_n 1, 1, 0, 0, []),
  (28, 1, false, .iload_n 2, 2, 0, 0, []), (29, 3, false, .invokevirtual 155, 236, 3, 0, [0, 8]), (32, 1, false, .iconst (-1), 1, 0, 1, []), (33, 3, false, .if_icmp .eq 12, 45, 0, 0, []),
  (36, 1, false, .aload_n 0, 0, 0, 0, []), (37, 1, false, .iconst 2, 2, 0, 0, []), (38, 1, false, .aload_n 0, 0, 0, 0, []), (39, 3, false, .getfield 158, 7, 6, 0, [0]),
  (42, 3, false, .invokevirtual 52, 209, 3, 0, [0, 7]), (45, 1, false, .aload_n 0, 0, 0, 0, []), (46, 3, false, .getfield 18, 7, 1, 2, [0]), (49, 3, false, .getfield 79, 6, 3, 2, [1]),
  (52, 3, false, .invokevirtual 137, 233, 1, 0, [0, 8]), (55, 1, false, .istore_n 3, 3, 0, 0, []), (56, 1, false, .aload_n 0, 0, 0, 0, []), (57, 3, false, .getfield 18, 7, 1, 2, [0]),
  (60, 3, false, .getfield 79, 6, 3, 2, [1]), (63, 1, false, .iload_n 3, 3, 0, 0, []), (64, 1, false, .iconst 0, 0, 0, 0, []), (65, 1, false, .iload_n 1, 1, 0, 0, []),
  (66, 3, false, .invokevirtual 140, 231, 4, 0, [0, 8]), (69, 1, false, .aload_n 0, 0, 0, 0, []), (70, 3, false, .getfield 18, 7, 1, 2, [0]), (73, 3, false, .getfield 79, 6, 3, 2, [1]),
  (76, 1, false, .iload_n 3, 3, 0, 0, []), (77, 1, false, .iconst 1, 1, 0, 0, []), (78, 1, false, .iload_n 2, 2, 0, 0, []), (79, 3, false, .invokevirtual 140, 231, 4, 0, [0, 8]),
  (82, 1, false, .aload_n 0, 0, 0, 0, []), (83, 3, false, .getfield 18, 7, 1, 2, [0]), (86, 3, false, .getfield 79, 6, 3, 2, [1]), (89, 1, false, .iload_n 3, 3, 0, 0, []),
  (90, 1, false, .iconst 2, 2, 0, 0, []), (91, 1, false, .aload_n 0, 0, 0, 0, []), (92, 1, false, .iconst 0, 0, 0, 0, []), (93, 2, false, .bipush 6, 6, 0, 0, []),
  (95, 3, false, .invokevirtual 106, 225, 3, 0, [0, 7]), (98, 3, false, .invokevirtual 140, 231, 4, 0, [0, 8]), (101, 1, false, .aload_n 0, 0, 0, 0, []), (102, 3, false, .getfield 18, 7, 1, 2, [0]),
  (105, 3, false, .getfield 79, 6, 3, 2, [1]), (108, 1, false, .iload_n 3, 3, 0, 0, []), (109, 1, false, .iconst 3, 3, 0, 0, []), (110, 1, false, .aload_n 0, 0, 0, 0, []),
  (111, 1, false, .iconst 0, 0, 0, 0, []), (112, 2, false, .bipush 99, 99, 0, 0, []), (114, 3, false, .invokevirtual 106, 225, 3, 0, [0, 7]), (117, 3, false, .invokevirtual 140, 231, 4, 0, [0, 8]),
  (120, 1, false, .aload_n 0, 0, 0, 0, []), (121, 3, false, .getfield 18, 7, 1, 2, [0]), (124, 3, false, .getfield 79, 6, 3, 2, [1]), (127, 1, false, .iload_n 3, 3, 0, 0, []),
  (128, 1, false, .iconst 4, 4, 0, 0, []), (129, 1, false, .aload_n 0, 0, 0, 0, []), (130, 1, false, .iconst 0, 0, 0, 0, []), (131, 2, false, .bipush 99, 99, 0, 0, []),
  (133, 3, false, .invokevirtual 106, 225, 3, 0, [0, 7]), (136, 3, false, .invokevirtual 140, 231, 4, 0, [0, 8]), (139, 1, false, .aload_n 0, 0, 0, 0, []), (140, 3, false, .getfield 18, 7, 1, 2, [0]),
  (143, 3, false, .getfield 79, 6, 3, 2, [1]), (146, 1, false, .iload_n 3, 3, 0, 0, []), (147, 1, false, .iconst 5, 5, 0, 0, []), (148, 1, false, .aload_n 0, 0, 0, 0, []),
  (149, 1, false, .iconst 0, 0, 0, 0, []), (150, 2, false, .bipush 9, 9, 0, 0, []), (152, 3, false, .invokevirtual 106, 225, 3, 0, [0, 7]), (155, 3, false, .invokevirtual 140, 231, 4, 0, [0, 8]),
  (158, 1, false, .return_, 0, 0, 0, [])]
def k_SkyReader_readGlacier : List El := [(0, 1, false, .aload_n 0, 0, 0, 0, []), (1, 1, false, .iconst 0, 0, 0, 0, []), (2, 1, false, .aload_n 0, 0, 0, 0, []), (3, 3, false, .invokevirtual 143, 220, 1, 0, [0, 7]),
  (6, 3, false, .invokevirtual 106, 225, 3, 0, [0, 7]), (9, 1, false, .istore_n 1, 1, 0, 0, []), (10, 1, false, .aload_n 0, 0, 0, 0, []), (11, 1, false, .iconst 0, 0, 0, 0, []),
  (12, 1, false, .aload_n 0, 0, 0, 0, []), (13, 3, false, .invokevirtual 146, 221, 1, 0, [0, 7]), (16, 1, false, .iconst 1, 1, 0, 0, []), (17, 1, false, .isub, 0, 0, 0, []),
  (18, 3, false, .invokevirtual 106, 225, 3, 0, [0, 7]), (21, 1, false, .istore_n 2, 2, 0, 0, []), (22, 1, false, .aload_n 0, 0, 0, 0, []), (23, 3, false, .getfield 18, 7, 1, 2, [0]),
  (26, 3, false, .getfield 82, 6, 4, 2, [1]), (29, 1, false, .iload_n 1, 1, 0, 0, []), (30, 1, false, .iload_n 2, 2, 0, 0, []), (31, 3, false, .invokevirtual 155, 236, 3, 0, [0, 8]),
  (34, 1, false, .iconst (-1), 1, 0, 1, []), (35, 3, false, .if_icmp .eq 12, 47, 0, 0, []), (38, 1, false, .aload_n 0, 0, 0, 0, []), (39, 1, false, .iconst 2, 2, 0, 0, []),
  (40, 1, false, .aload_n 0, 0, 0, 0, []), (41, 3, false, .getfield 158, 7, 6, 0, [0]), (44, 3, false, .invokevirtual 52, 209, 3, 0, [0, 7]), (47, 1, false, .aload_n 0, 0, 0, 0, []),
  (48, 3, false, .getfield 18, 7, 1, 2, [0]), (51, 3, false, .getfield 82, 6, 4, 2, [1]), (54, 3, false, .invokevirtual 137, 233, 1, 0, [0, 8]), (57, 1, false, .istore_n 3, 3, 0, 0, []),
  (58, 1, false, .aload_n 0, 0, 0, 0, []), (59, 3, false, .getfield 18, 7, 1, 2, [0]), (62, 3, false, .getfield 82, 6, 4, 2, [1]), (65, 1, false, .iload_n 3, 3, 0, 0, []),
  (66, 1, false, .iconst 0, 0, 0, 0, []), (67, 1, false, .iload_n 1, 1, 0, 0, []), (68, 3, false, .invokevirtual 140, 231, 4, 0, [0, 8]), (71, 1, false, .aload_n 0, 0, 0, 0, []),
  (72, 3, false, .getfield 18, 7, 1, 2, [0]), (75, 3, false, .getfield 82, 6, 4, 2, [1]), (78, 1, false, .iload_n 3, 3, 0, 0, []), (79, 1, false, .iconst 1, 1, 0, 0, []),
  (80, 1, false, .iload_n 2, 2, 0, 0, []), (81, 3, false, .invokevirtual 140, 231, 4, 0, [0, 8]), (84, 1, false, .aload_n 0, 0, 0, 0, []), (85, 3, false, .getfield 18, 7, 1, 2, [0]),
  (88, 3, false, .getfield 82, 6, 4, 2, [1]), (91, 1, false, .iload_n 3, 3, 0, 0, []), (92, 1, false, .iconst 2, 2, 0, 0, []), (93, 1, false, .aload_n 0, 0, 0, 0, []),
  (94, 1, false, .iconst 0, 0, 0, 0, []), (95, 2, false, .bipush 49, 49, 0, 0, []), (97, 3, false, .invokevirtual 106, 225, 3, 0, [0, 7]), (100, 3, false, .invokevirtual 140, 231, 4, 0, [0, 8]),
  (103, 1, false, .return_, 0, 0, 0, [])]
def k_SkyReader_lastX : List El := [(0, 1, false, .aload_n 0, 0, 0, 0, []), (1, 3, false, .getfield 18, 7, 1, 2, [0]), (4, 3, false, .getfield 103, 6, 0, 2, [1]), (7, 1, false, .iconst 0, 0, 0, 0, []),
  (8, 3, false, .invokevirtual 161, 182, 2, 0, [0, 5]), (11, 1, false, .iconst 1, 1, 0, 0, []), (12, 1, false, .isub, 0, 0, 0, []), (13, 1, false, .ireturn, 0, 0, 0, [])]
def k_SkyReader_lastY : List El := [(0, 1, false, .aload_n 0, 0, 0, 0, []), (1, 3, false, .getfield 18, 7, 1, 2, [0]), (4, 3, false, .getfield 103, 6, 0, 2, [1]), (7, 1, false, .iconst 1, 1, 0, 0, []),
  (8, 3, false, .invokevirtual 161, 182, 2, 0, [0, 5]), (11, 1, false, .iconst 1, 1, 0, 0, []), (12, 1, false, .isub, 0, 0, 0, []), (13, 1, false, .ireturn, 0, 0, 0, [])]
def k_SkyReader_skipBlanks : List El := [(0, 1, true, .aload_n 0, 0, 0, 0, []), (1, 3, false, .getfield 29, 7, 3, 0, [0]), (4, 1, false, .aload_n 0, 0, 0, 0, []), (5, 3, false, .getfield 26, 7, 2, 0, [0]),
  (8, 3, false, .if_icmp .ge 32, 40, 0, 0, []), (11, 1, false, .aload_n 0, 0, 0, 0, []), (12, 3, false, .getfield 9, 7, 0, 2, [0]), (15, 1, false, .aload_n 0, 0, 0, 0, []),
  (16, 3, false, .getfield 29, 7, 3, 0, [0]), (19, 3, false, .invokevirtual 161, 182, 2, 0, [0, 5]), (22, 2, false, .bipush 32, 32, 0, 0, []), (24, 3, false, .if_icmp .ne 16, 40, 0, 0, []),
  (27, 1, false, .aload_n 0, 0, 0, 0, []), (28, 1, false, .dup, 0, 0, 0, []), (29, 3, false, .getfield 29, 7, 3, 0, [0]), (32, 1, false, .iconst 1, 1, 0, 0, []),
  (33, 1, false, .iadd, 0, 0, 0, []), (34, 3, false, .putfield 29, 7, 3, 0, [0]), (37, 3, false, .goto (-37), 0, 0, 0, []), (40, 1, false, .return_, 0, 0, 0, [])]
def k_SkyReader_readWord : List El := [(0, 1, false, .aload_n 0, 0, 0, 0, []), (1, 3, false, .getfield 29, 7, 3, 0, [0]), (4, 1, false, .istore_n 1, 1, 0, 0, []), (5, 1, true, .aload_n 0, 0, 0, 0, []),
  (6, 3, false, .getfield 29, 7, 3, 0, [0]), (9, 1, false, .aload_n 0, 0, 0, 0, []), (10, 3, false, .getfield 26, 7, 2, 0, [0]), (13, 3, false, .if_icmp .ge 48, 61, 0, 0, []),
  (16, 1, false, .aload_n 0, 0, 0, 0, []), (17, 3, false, .getfield 9, 7, 0, 2, [0]), (20, 1, false, .aload_n 0, 0, 0, 0, []), (21, 3, false, .getfield 29, 7, 3, 0, [0]),
  (24, 3, false, .invokevirtual 161, 182, 2, 0, [0, 5]), (27, 2, false, .bipush 97, 97, 0, 0, []), (29, 3, false, .if_icmp .lt 32, 61, 0, 0, []), (32, 1, false, .aload_n 0, 0, 0, 0, []),
  (33, 3, false, .getfield 9, 7, 0, 2, [0]), (36, 1, false, .aload_n 0, 0, 0, 0, []), (37, 3, false, .getfield 29, 7, 3, 0, [0]), (40, 3, false, .invokevirtual 161, 182, 2, 0, [0, 5]),
  (43, 2, false, .bipush 122, 122, 0, 0, []), (45, 3, false, .if_icmp .gt 16, 61, 0, 0, []), (48, 1, false, .aload_n 0, 0, 0, 0, []), (49, 1, false, .dup, 0, 0, 0, []),
  (50, 3, false, .getfield 29, 7, 3, 0, [0]), (53, 1, false, .iconst 1, 1, 0, 0, []), (54, 1, false, .iadd, 0, 0, 0, []), (55, 3, false, .putfield 29, 7, 3, 0, [0]),
  (58, 3, false, .goto (-53), 5, 0, 0, []), (61, 1, false, .iconst 0, 0, 0, 0, []), (62, 1, false, .istore_n 2, 2, 0, 0, []), (63, 1, true, .iload_n 2, 2, 0, 0, []),
  (64, 2, false, .bipush 11, 11, 0, 0, []), (66, 3, false, .if_icmp .ge 23, 89, 0, 0, []), (69, 1, false, .aload_n 0, 0, 0, 0, []), (70, 1, false, .iload_n 2, 2, 0, 0, []),
  (71, 3, false, .invokestatic 164, 213, 1, 0, [0]), (74, 1, false, .iload_n 1, 1, 0, 0, []), (75, 3, false, .invokevirtual 168, 224, 3, 0, [0, 7]), (78, 3, false, .ifCond .eq 5, 83, 0, 0, []),
  (81, 1, false, .iload_n 2, 2, 0, 0, []), (82, 1, false, .ireturn, 0, 0, 0, []), (83, 3, false, .iinc 2 1, 2, 1, 0, []), (86, 3, false, .goto (-23), 63, 0, 0, []),
  (89, 1, false, .iconst (-1), 1, 0, 1, []), (90, 1, false, .ireturn, 0, 0, 0, [])]
def k_SkyReader_isSpelt : List El := [(0, 1, false, .aload_n 0, 0, 0, 0, []), (1, 3, false, .getfield 29, 7, 3, 0, [0]), (4, 1, false, .iload_n 2, 2, 0, 0, []), (5, 1, false, .isub, 0, 0, 0, []),
  (6, 1, false, .aload_n 1, 1, 0, 0, []), (7, 3, false, .invokevirtual 172, 0, 0, 2, []), (10, 3, false, .if_icmp .eq 5, 15, 0, 0, []), (13, 1, false, .iconst 0, 0, 0, 0, []),
  (14, 1, false, .ireturn, 0, 0, 1, []), (15, 1, false, .iconst 0, 0, 0, 0, []), (16, 1, false, .istore_n 3, 3, 0, 0, []), (17, 1, true, .iload_n 3, 3, 0, 0, []),
  (18, 1, false, .aload_n 1, 1, 0, 0, []), (19, 3, false, .invokevirtual 172, 0, 0, 2, []), (22, 3, false, .if_icmp .ge 29, 51, 0, 0, []), (25, 1, false, .aload_n 1, 1, 0, 0, []),
  (26, 1, false, .iload_n 3, 3, 0, 0, []), (27, 3, false, .invokevirtual 176, 0, 0, 3, []), (30, 1, false, .aload_n 0, 0, 0, 0, []), (31, 3, false, .getfield 9, 7, 0, 2, [0]),
  (34, 1, false, .iload_n 2, 2, 0, 0, []), (35, 1, false, .iload_n 3, 3, 0, 0, []), (36, 1, false, .iadd, 0, 0, 0, []), (37, 3, false, .invokevirtual 161, 182, 2, 0, [0, 5]),
  (40, 3, false, .if_icmp .eq 5, 45, 0, 0, []), (43, 1, false, .iconst 0, 0, 0, 0, []), (44, 1, false, .ireturn, 0, 0, 1, []), (45, 3, false, .iinc 3 1, 3, 1, 0, []),
  (48, 3, false, .goto (-31), 17, 0, 0, []), (51, 1, false, .iconst 1, 1, 0, 0, []), (52, 1, false, .ireturn, 0, 0, 1, [])]
def k_SkyReader_readNumber : List El := [(0, 1, false, .aload_n 0, 0, 0, 0, []), (1, 3, false, .getfield 32, 7, 4, 0, [0]), (4, 3, false, .ifCond .eq 5, 9, 0, 0, []), (7, 1, false, .iload_n 1, 1, 0, 0, []),
  (8, 1, false, .ireturn, 0, 0, 0, []), (9, 1, false, .aload_n 0, 0, 0, 0, []), (10, 3, false, .invokevirtual 38, 222, 1, 0, [0, 7]), (13, 1, false, .aload_n 0, 0, 0, 0, []),
  (14, 1, false, .aload_n 0, 0, 0, 0, []), (15, 3, false, .getfield 29, 7, 3, 0, [0]), (18, 3, false, .putfield 158, 7, 6, 0, [0]), (21, 1, false, .iconst 0, 0, 0, 0, []),
  (22, 1, false, .istore_n 3, 3, 0, 0, []), (23, 1, true, .aload_n 0, 0, 0, 0, []), (24, 3, false, .getfield 29, 7, 3, 0, [0]), (27, 1, false, .aload_n 0, 0, 0, 0, []),
  (28, 3, false, .getfield 26, 7, 2, 0, [0]), (31, 3, false, .if_icmp .ge 73, 104, 0, 0, []), (34, 1, false, .aload_n 0, 0, 0, 0, []), (35, 3, false, .getfield 9, 7, 0, 2, [0]),
  (38, 1, false, .aload_n 0, 0, 0, 0, []), (39, 3, false, .getfield 29, 7, 3, 0, [0]), (42, 3, false, .invokevirtual 161, 182, 2, 0, [0, 5]), (45, 2, false, .bipush 48, 48, 0, 0, []),
  (47, 3, false, .if_icmp .lt 57, 104, 0, 0, []), (50, 1, false, .aload_n 0, 0, 0, 0, []), (51, 3, false, .getfield 9, 7, 0, 2, [0]), (54, 1, false, .aload_n 0, 0, 0, 0, []),
  (55, 3, false, .getfield 29, 7, 3, 0, [0]), (58, 3, false, .invokevirtual 161, 182, 2, 0, [0, 5]), (61, 2, false, .bipush 57, 57, 0, 0, []), (63, 3, false, .if_icmp .gt 41, 104, 0, 0, []),
  (66, 2, false, .bipush 10, 10, 0, 0, []), (68, 1, false, .iload_n 3, 3, 0, 0, []), (69, 1, false, .imul, 0, 0, 0, []), (70, 1, false, .aload_n 0, 0, 0, 0, []),
  (71, 3, false, .getfield 9, 7, 0, 2, [0]), (74, 1, false, .aload_n 0, 0, 0, 0, []), (75, 3, false, .getfield 29, 7, 3, 0, [0]), (78, 3, false, .invokevirtual 161, 182, 2, 0, [0, 5]),
  (81, 1, false, .iadd, 0, 0, 0, []), (82, 2, false, .bipush 48, 48, 0, 0, []), (84, 1, false, .isub, 0, 0, 0, []), (85, 2, false, .ldc 180, 100000, 0, 0, []),
  (87, 3, false, .invokestatic 181, 0, 0, 4, []), (90, 1, false, .istore_n 3, 3, 0, 0, []), (91, 1, false, .aload_n 0, 0, 0, 0, []), (92, 1, false, .dup, 0, 0, 0, []),
  (93, 3, false, .getfield 29, 7, 3, 0, [0]), (96, 1, false, .iconst 1, 1, 0, 0, []), (97, 1, false, .iadd, 0, 0, 0, []), (98, 3, false, .putfield 29, 7, 3, 0, [0]),
  (101, 3, false, .goto (-78), 23, 0, 0, []), (104, 1, false, .aload_n 0, 0, 0, 0, []), (105, 3, false, .getfield 29, 7, 3, 0, [0]), (108, 1, false, .aload_n 0, 0, 0, 0, []),
  (109, 3, false, .getfield 158, 7, 6, 0, [0]), (112, 3, false, .if_icmp .ne 15, 127, 0, 0, []), (115, 1, false, .aload_n 0, 0, 0, 0, []), (116, 1, false, .iconst 1, 1, 0, 0, []),
  (117, 1, false, .aload_n 0, 0, 0, 0, []), (118, 3, false, .getfield 29, 7, 3, 0, [0]), (121, 3, false, .invokevirtual 52, 209, 3, 0, [0, 7]), (124, 3, false, .goto 22, 146, 0, 0, []),
  (127, 1, false, .iload_n 3, 3, 0, 0, []), (128, 1, false, .iload_n 1, 1, 0, 0, []), (129, 3, false, .if_icmp .lt 8, 137, 0, 0, []), (132, 1, false, .iload_n 3, 3, 0, 0, []),
  (133, 1, false, .iload_n 2, 2, 0, 0, []), (134, 3, false, .if_icmp .le 12, 146, 0, 0, []), (137, 1, false, .aload_n 0, 0, 0, 0, []), (138, 1, false, .iconst 2, 2, 0, 0, []),
  (139, 1, false, .aload_n 0, 0, 0, 0, []), (140, 3, false, .getfield 158, 7, 6, 0, [0]), (143, 3, false, .invokevirtual 52, 209, 3, 0, [0, 7]), (146, 1, false, .aload_n 0, 0, 0, 0, []),
  (147, 3, false, .getfield 32, 7, 4, 0, [0]), (150, 3, false, .ifCond .ne 7, 157, 0, 0, []), (153, 1, false, .iload_n 3, 3, 0, 0, []), (154, 3, false, .goto 4, 158, 0, 0, []),
  (157, 1, false, .iload_n 1, 1, 0, 0, []), (158, 1, false, .ireturn, 0, 0, 0, [])]
def k_SkyReader_readEnd : List El := [(0, 1, false, .aload_n 0, 0, 0, 0, []), (1, 3, false, .invokevirtual 38, 222, 1, 0, [0, 7]), (4, 1, false, .aload_n 0, 0, 0, 0, []), (5, 3, false, .getfield 29, 7, 3, 0, [0]),
  (8, 1, false, .aload_n 0, 0, 0, 0, []), (9, 3, false, .getfield 26, 7, 2, 0, [0]), (12, 3, false, .if_icmp .ge 32, 44, 0, 0, []), (15, 1, false, .aload_n 0, 0, 0, 0, []),
  (16, 3, false, .getfield 9, 7, 0, 2, [0]), (19, 1, false, .aload_n 0, 0, 0, 0, []), (20, 3, false, .getfield 29, 7, 3, 0, [0]), (23, 3, false, .invokevirtual 161, 182, 2, 0, [0, 5]),
  (26, 2, false, .bipush 59, 59, 0, 0, []), (28, 3, false, .if_icmp .ne 16, 44, 0, 0, []), (31, 1, false, .aload_n 0, 0, 0, 0, []), (32, 1, false, .dup, 0, 0, 0, []),
  (33, 3, false, .getfield 29, 7, 3, 0, [0]), (36, 1, false, .iconst 1, 1, 0, 0, []), (37, 1, false, .iadd, 0, 0, 0, []), (38, 3, false, .putfield 29, 7, 3, 0, [0]),
  (41, 3, false, .goto 12, 53, 0, 0, []), (44, 1, false, .aload_n 0, 0, 0, 0, []), (45, 1, false, .iconst 1, 1, 0, 0, []), (46, 1, false, .aload_n 0, 0, 0, 0, []),
  (47, 3, false, .getfield 29, 7, 3, 0, [0]), (50, 3, false, .invokevirtual 52, 209, 3, 0, [0, 7]), (53, 1, false, .return_, 0, 0, 0, [])]
def k_Table_init : List El := [(0, 1, false, .aload_n 0, 0, 0, 0, []), (1, 3, false, .invokespecial 3, 0, 0, 9, []), (4, 1, false, .aload_n 0, 0, 0, 0, []), (5, 1, false, .iload_n 1, 1, 0, 0, []),
  (6, 3, false, .putfield 9, 8, 0, 3, [0]), (9, 1, false, .aload_n 0, 0, 0, 0, []), (10, 1, false, .iload_n 2, 2, 0, 0, []), (11, 3, false, .putfield 15, 8, 1, 3, [0]),
  (14, 1, false, .iload_n 1, 1, 0, 0, []), (15, 1, false, .iload_n 2, 2, 0, 0, []), (16, 1, false, .imul, 0, 0, 0, []), (17, 1, false, .istore_n 3, 3, 0, 0, []),
  (18, 1, false, .aload_n 0, 0, 0, 0, []), (19, 1, false, .iload_n 3, 3, 0, 0, []), (20, 3, false, .ifCond .le 7, 27, 0, 0, []), (23, 1, false, .iload_n 3, 3, 0, 0, []),
  (24, 3, false, .goto 4, 28, 0, 0, []), (27, 1, false, .iconst 0, 0, 0, 0, []), (28, 2, false, .newarray .int, 12, 0, 0, []), (30, 3, false, .putfield 18, 8, 2, 2, [0]),
  (33, 1, false, .aload_n 0, 0, 0, 0, []), (34, 1, false, .iconst 0, 0, 0, 0, []), (35, 3, false, .putfield 22, 8, 3, 0, [0]), (38, 1, false, .return_, 0, 0, 0, [])]
def k_Table_size : List El := [(0, 1, false, .aload_n 0, 0, 0, 0, []), (1, 3, false, .getfield 22, 8, 3, 0, [0]), (4, 1, false, .ireturn, 0, 0, 0, [])]
def k_Table_isFull : List El := [(0, 1, false, .aload_n 0, 0, 0, 0, []), (1, 3, false, .getfield 22, 8, 3, 0, [0]), (4, 1, false, .aload_n 0, 0, 0, 0, []), (5, 3, false, .getfield 9, 8, 0, 3, [0]),
  (8, 3, false, .if_icmp .lt 7, 15, 0, 0, []), (11, 1, false, .iconst 1, 1, 0, 0, []), (12, 3, false, .goto 4, 16, 0, 0, []), (15, 1, false, .iconst 0, 0, 0, 0, []),
  (16, 1, false, .ireturn, 0, 0, 1, [])]
def k_Table_get : List El := [(0, 1, false, .iload_n 1, 1, 0, 0, []), (1, 1, false, .aload_n 0, 0, 0, 0, []), (2, 3, false, .getfield 15, 8, 1, 3, [0]), (5, 1, false, .imul, 0, 0, 0, []),
  (6, 1, false, .iload_n 2, 2, 0, 0, []), (7, 1, false, .iadd, 0, 0, 0, []), (8, 1, false, .istore_n 3, 3, 0, 0, []), (9, 1, false, .iload_n 2, 2, 0, 0, []),
  (10, 3, false, .ifCond .lt 33, 43, 0, 0, []), (13, 1, false, .iload_n 2, 2, 0, 0, []), (14, 1, false, .aload_n 0, 0, 0, 0, []), (15, 3, false, .getfield 15, 8, 1, 3, [0]),
  (18, 3, false, .if_icmp .ge 25, 43, 0, 0, []), (21, 1, false, .iload_n 3, 3, 0, 0, []), (22, 3, false, .ifCond .lt 21, 43, 0, 0, []), (25, 1, false, .iload_n 3, 3, 0, 0, []),
  (26, 1, false, .aload_n 0, 0, 0, 0, []), (27, 3, false, .getfield 18, 8, 2, 2, [0]), (30, 1, false, .arraylength, 0, 0, 0, []), (31, 3, false, .if_icmp .ge 12, 43, 0, 0, []),
  (34, 1, false, .aload_n 0, 0, 0, 0, []), (35, 3, false, .getfield 18, 8, 2, 2, [0]), (38, 1, false, .iload_n 3, 3, 0, 0, []), (39, 1, false, .iaload, 0, 0, 0, []),
  (40, 3, false, .goto 4, 44, 0, 0, []), (43, 1, false, .iconst 0, 0, 0, 0, []), (44, 1, false, .ireturn, 0, 0, 0, [])]
def k_Table_set : List El := [(0, 1, false, .iload_n 1, 1, 0, 0, []), (1, 1, false, .aload_n 0, 0, 0, 0, []), (2, 3, false, .getfield 15, 8, 1, 3, [0]), (5, 1, false, .imul, 0, 0, 0, []),
  (6, 1, false, .iload_n 2, 2, 0, 0, []), (7, 1, false, .iadd, 0, 0, 0, []), (8, 2, false, .istore 4, 4, 0, 0, []), (10, 1, false, .iload_n 2, 2, 0, 0, []),
  (11, 3, false, .ifCond .lt 34, 45, 0, 0, []), (14, 1, false, .iload_n 2, 2, 0, 0, []), (15, 1, false, .aload_n 0, 0, 0, 0, []), (16, 3, false, .getfield 15, 8, 1, 3, [0]),
  (19, 3, false, .if_icmp .ge 26, 45, 0, 0, []), (22, 2, false, .iload 4, 4, 0, 0, []), (24, 3, false, .ifCond .lt 21, 45, 0, 0, []), (27, 2, false, .iload 4, 4, 0, 0, []),
  (29, 1, false, .aload_n 0, 0, 0, 0, []), (30, 3, false, .getfield 18, 8, 2, 2, [0]), (33, 1, false, .arraylength, 0, 0, 0, []), (34, 3, false, .if_icmp .ge 11, 45, 0, 0, []),
  (37, 1, false, .aload_n 0, 0, 0, 0, []), (38, 3, false, .getfield 18, 8, 2, 2, [0]), (41, 2, false, .iload 4, 4, 0, 0, []), (43, 1, false, .iload_n 3, 3, 0, 0, []),
  (44, 1, false, .iastore, 0, 0, 0, []), (45, 1, false, .return_, 0, 0, 0, [])]
def k_Table_add : List El := [(0, 1, false, .iload_n 1, 1, 0, 0, []), (1, 1, false, .aload_n 0, 0, 0, 0, []), (2, 3, false, .getfield 15, 8, 1, 3, [0]), (5, 1, false, .imul, 0, 0, 0, []),
  (6, 1, false, .iload_n 2, 2, 0, 0, []), (7, 1, false, .iadd, 0, 0, 0, []), (8, 2, false, .istore 4, 4, 0, 0, []), (10, 1, false, .iload_n 2, 2, 0, 0, []),
  (11, 3, false, .ifCond .lt 37, 48, 0, 0, []), (14, 1, false, .iload_n 2, 2, 0, 0, []), (15, 1, false, .aload_n 0, 0, 0, 0, []), (16, 3, false, .getfield 15, 8, 1, 3, [0]),
  (19, 3, false, .if_icmp .ge 29, 48, 0, 0, []), (22, 2, false, .iload 4, 4, 0, 0, []), (24, 3, false, .ifCond .lt 24, 48, 0, 0, []), (27, 2, false, .iload 4, 4, 0, 0, []),
  (29, 1, false, .aload_n 0, 0, 0, 0, []), (30, 3, false, .getfield 18, 8, 2, 2, [0]), (33, 1, false, .arraylength, 0, 0, 0, []), (34, 3, false, .if_icmp .ge 14, 48, 0, 0, []),
  (37, 1, false, .aload_n 0, 0, 0, 0, []), (38, 3, false, .getfield 18, 8, 2, 2, [0]), (41, 2, false, .iload 4, 4, 0, 0, []), (43, 1, false, .dup2, 0, 0, 0, []),
  (44, 1, false, .iaload, 0, 0, 0, []), (45, 1, false, .iload_n 3, 3, 0, 0, []), (46, 1, false, .iadd, 0, 0, 0, []), (47, 1, false, .iastore, 0, 0, 0, []),
  (48, 1, false, .return_, 0, 0, 0, [])]
def k_Table_open : List El := [(0, 1, false, .aload_n 0, 0, 0, 0, []), (1, 3, false, .invokevirtual 25, 229, 1, 0, [0, 8]), (4, 3, false, .ifCond .eq 5, 9, 0, 0, []), (7, 1, false, .iconst (-1), 1, 0, 1, []),
  (8, 1, false, .ireturn, 0, 0, 0, []), (9, 1, false, .aload_n 0, 0, 0, 0, []), (10, 1, false, .dup, 0, 0, 0, []), (11, 3, false, .getfield 22, 8, 3, 0, [0]),
  (14, 1, false, .iconst 1, 1, 0, 0, []), (15, 1, false, .iadd, 0, 0, 0, []), (16, 3, false, .putfield 22, 8, 3, 0, [0]), (19, 1, false, .aload_n 0, 0, 0, 0, []),
  (20, 3, false, .getfield 22, 8, 3, 0, [0]), (23, 1, false, .iconst 1, 1, 0, 0, []), (24, 1, false, .isub, 0, 0, 0, []), (25, 1, false, .ireturn, 0, 0, 0, [])]
def k_Table_sum : List El := [(0, 1, false, .iconst 0, 0, 0, 0, []), (1, 1, false, .istore_n 2, 2, 0, 0, []), (2, 1, false, .iconst 0, 0, 0, 0, []), (3, 1, false, .istore_n 3, 3, 0, 0, []),
  (4, 1, true, .iload_n 3, 3, 0, 0, []), (5, 1, false, .aload_n 0, 0, 0, 0, []), (6, 3, false, .getfield 15, 8, 1, 3, [0]), (9, 3, false, .if_icmp .ge 18, 27, 0, 0, []),
  (12, 1, false, .iload_n 2, 2, 0, 0, []), (13, 1, false, .aload_n 0, 0, 0, 0, []), (14, 1, false, .iload_n 1, 1, 0, 0, []), (15, 1, false, .iload_n 3, 3, 0, 0, []),
  (16, 3, false, .invokevirtual 29, 230, 3, 0, [0, 8]), (19, 1, false, .iadd, 0, 0, 0, []), (20, 1, false, .istore_n 2, 2, 0, 0, []), (21, 3, false, .iinc 3 1, 3, 1, 0, []),
  (24, 3, false, .goto (-20), 4, 0, 0, []), (27, 1, false, .iload_n 2, 2, 0, 0, []), (28, 1, false, .ireturn, 0, 0, 0, [])]
def k_Table_mostIn : List El := [(0, 1, false, .iconst 0, 0, 0, 0, []), (1, 1, false, .istore_n 2, 2, 0, 0, []), (2, 1, false, .iconst 1, 1, 0, 0, []), (3, 1, false, .istore_n 3, 3, 0, 0, []),
  (4, 1, true, .iload_n 3, 3, 0, 0, []), (5, 1, false, .aload_n 0, 0, 0, 0, []), (6, 3, false, .getfield 15, 8, 1, 3, [0]), (9, 3, false, .if_icmp .ge 26, 35, 0, 0, []),
  (12, 1, false, .aload_n 0, 0, 0, 0, []), (13, 1, false, .iload_n 1, 1, 0, 0, []), (14, 1, false, .iload_n 3, 3, 0, 0, []), (15, 3, false, .invokevirtual 29, 230, 3, 0, [0, 8]),
  (18, 1, false, .aload_n 0, 0, 0, 0, []), (19, 1, false, .iload_n 1, 1, 0, 0, []), (20, 1, false, .iload_n 2, 2, 0, 0, []), (21, 3, false, .invokevirtual 29, 230, 3, 0, [0, 8]),
  (24, 3, false, .if_icmp .le 5, 29, 0, 0, []), (27, 1, false, .iload_n 3, 3, 0, 0, []), (28, 1, false, .istore_n 2, 2, 0, 0, []), (29, 3, false, .iinc 3 1, 3, 1, 0, []),
  (32, 3, false, .goto (-28), 4, 0, 0, []), (35, 1, false, .iload_n 2, 2, 0, 0, []), (36, 1, false, .ireturn, 0, 0, 0, [])]
def k_Table_rowAt : List El := [(0, 1, false, .iconst 0, 0, 0, 0, []), (1, 1, false, .istore_n 3, 3, 0, 0, []), (2, 1, true, .iload_n 3, 3, 0, 0, []), (3, 1, false, .aload_n 0, 0, 0, 0, []),
  (4, 3, false, .getfield 22, 8, 3, 0, [0]), (7, 3, false, .if_icmp .ge 31, 38, 0, 0, []), (10, 1, false, .aload_n 0, 0, 0, 0, []), (11, 1, false, .iload_n 3, 3, 0, 0, []),
  (12, 1, false, .iconst 0, 0, 0, 0, []), (13, 3, false, .invokevirtual 29, 230, 3, 0, [0, 8]), (16, 1, false, .iload_n 1, 1, 0, 0, []), (17, 3, false, .if_icmp .ne 15, 32, 0, 0, []),
  (20, 1, false, .aload_n 0, 0, 0, 0, []), (21, 1, false, .iload_n 3, 3, 0, 0, []), (22, 1, false, .iconst 1, 1, 0, 0, []), (23, 3, false, .invokevirtual 29, 230, 3, 0, [0, 8]),
  (26, 1, false, .iload_n 2, 2, 0, 0, []), (27, 3, false, .if_icmp .ne 5, 32, 0, 0, []), (30, 1, false, .iload_n 3, 3, 0, 0, []), (31, 1, false, .ireturn, 0, 0, 0, []),
  (32, 3, false, .iinc 3 1, 3, 1, 0, []), (35, 3, false, .goto (-33), 2, 0, 0, []), (38, 1, false, .iconst (-1), 1, 0, 1, []), (39, 1, false, .ireturn, 0, 0, 0, [])]
def k_Table_empty : List El := [(0, 1, false, .aload_n 0, 0, 0, 0, []), (1, 1, false, .iconst 0, 0, 0, 0, []), (2, 3, false, .putfield 22, 8, 3, 0, [0]), (5, 1, false, .iconst 0, 0, 0, 0, []),
  (6, 1, false, .istore_n 1, 1, 0, 0, []), (7, 1, true, .iload_n 1, 1, 0, 0, []), (8, 1, false, .aload_n 0, 0, 0, 0, []), (9, 3, false, .getfield 18, 8, 2, 2, [0]),
  (12, 1, false, .arraylength, 0, 0, 0, []), (13, 3, false, .if_icmp .ge 16, 29, 0, 0, []), (16, 1, false, .aload_n 0, 0, 0, 0, []), (17, 3, false, .getfield 18, 8, 2, 2, [0]),
  (20, 1, false, .iload_n 1, 1, 0, 0, []), (21, 1, false, .iconst 0, 0, 0, 0, []), (22, 1, false, .iastore, 0, 0, 0, []), (23, 3, false, .iinc 1 1, 1, 1, 0, []),
  (26, 3, false, .goto (-19), 7, 0, 0, []), (29, 1, false, .return_, 0, 0, 0, [])]
def k_Table_emptyRow : List El := [(0, 1, false, .iconst 0, 0, 0, 0, []), (1, 1, false, .istore_n 2, 2, 0, 0, []), (2, 1, true, .iload_n 2, 2, 0, 0, []), (3, 1, false, .aload_n 0, 0, 0, 0, []),
  (4, 3, false, .getfield 15, 8, 1, 3, [0]), (7, 3, false, .if_icmp .ge 16, 23, 0, 0, []), (10, 1, false, .aload_n 0, 0, 0, 0, []), (11, 1, false, .iload_n 1, 1, 0, 0, []),
  (12, 1, false, .iload_n 2, 2, 0, 0, []), (13, 1, false, .iconst 0, 0, 0, 0, []), (14, 3, false, .invokevirtual 33, 231, 4, 0, [0, 8]), (17, 3, false, .iinc 2 1, 2, 1, 0, []),
  (20, 3, false, .goto (-18), 2, 0, 0, []), (23, 1, false, .return_, 0, 0, 0, [])]
def k_Table_copyFrom : List El := [(0, 1, false, .aload_n 0, 0, 0, 0, []), (1, 1, false, .aload_n 1, 1, 0, 0, []), (2, 3, false, .getfield 22, 8, 3, 0, [0]), (5, 3, false, .putfield 22, 8, 3, 0, [0]),
  (8, 1, false, .iconst 0, 0, 0, 0, []), (9, 1, false, .istore_n 2, 2, 0, 0, []), (10, 1, true, .iload_n 2, 2, 0, 0, []), (11, 1, false, .aload_n 0, 0, 0, 0, []),
  (12, 3, false, .getfield 18, 8, 2, 2, [0]), (15, 1, false, .arraylength, 0, 0, 0, []), (16, 3, false, .if_icmp .ge 30, 46, 0, 0, []), (19, 1, false, .iload_n 2, 2, 0, 0, []),
  (20, 1, false, .aload_n 1, 1, 0, 0, []), (21, 3, false, .getfield 18, 8, 2, 2, [0]), (24, 1, false, .arraylength, 0, 0, 0, []), (25, 3, false, .if_icmp .ge 21, 46, 0, 0, []),
  (28, 1, false, .aload_n 0, 0, 0, 0, []), (29, 3, false, .getfield 18, 8, 2, 2, [0]), (32, 1, false, .iload_n 2, 2, 0, 0, []), (33, 1, false, .aload_n 1, 1, 0, 0, []),
  (34, 3, false, .getfield 18, 8, 2, 2, [0]), (37, 1, false, .iload_n 2, 2, 0, 0, []), (38, 1, false, .iaload, 0, 0, 0, []), (39, 1, false, .iastore, 0, 0, 0, []),
  (40, 3, false, .iinc 2 1, 2, 1, 0, []), (43, 3, false, .goto (-33), 10, 0, 0, []), (46, 1, false, .return_, 0, 0, 0, [])]
def k_Worth_init : List El := [(0, 1, false, .aload_n 0, 0, 0, 0, []), (1, 3, false, .invokespecial 3, 0, 0, 9, []), (4, 1, false, .aload_n 0, 0, 0, 0, []), (5, 1, false, .aload_n 1, 1, 0, 0, []),
  (6, 3, false, .putfield 9, 9, 0, 2, [0]), (9, 1, false, .aload_n 0, 0, 0, 0, []), (10, 3, false, .new 15, 8, 4, 0, []), (13, 1, false, .dup, 0, 0, 0, []),
  (14, 2, false, .bipush 8, 8, 0, 0, []), (16, 2, false, .bipush 12, 12, 0, 0, []), (18, 3, false, .invokespecial 17, 227, 3, 1, [0]), (21, 3, false, .putfield 20, 9, 1, 2, [0]),
  (24, 1, false, .aload_n 0, 0, 0, 0, []), (25, 3, false, .new 15, 8, 4, 0, []), (28, 1, false, .dup, 0, 0, 0, []), (29, 2, false, .bipush 8, 8, 0, 0, []),
  (31, 2, false, .bipush 12, 12, 0, 0, []), (33, 3, false, .invokespecial 17, 227, 3, 1, [0]), (36, 3, false, .putfield 24, 9, 2, 2, [0]), (39, 1, false, .aload_n 0, 0, 0, 0, []),
  (40, 3, false, .new 27, 5, 1, 0, []), (43, 1, false, .dup, 0, 0, 0, []), (44, 2, false, .bipush 8, 8, 0, 0, []), (46, 3, false, .invokespecial 29, 181, 2, 1, [0]),
  (49, 3, false, .putfield 32, 9, 3, 2, [0]), (52, 1, false, .aload_n 0, 0, 0, 0, []), (53, 3, false, .new 27, 5, 1, 0, []), (56, 1, false, .dup, 0, 0, 0, []),
  (57, 2, false, .bipush 12, 12, 0, 0, []), (59, 3, false, .invokespecial 29, 181, 2, 1, [0]), (62, 3, false, .putfield 36, 9, 4, 2, [0]), (65, 1, false, .aload_n 0, 0, 0, 0, []),
  (66, 3, false, .new 27, 5, 1, 0, []), (69, 1, false, .dup, 0, 0, 0, []), (70, 2, false, .bipush 8, 8, 0, 0, []), (72, 3, false, .invokespecial 29, 181, 2, 1, [0]),
  (75, 3, false, .putfield 39, 9, 5, 2, [0]), (78, 1, false, .aload_n 0, 0, 0, 0, []), (79, 3, false, .new 27, 5, 1, 0, []), (82, 1, false, .dup, 0, 0, 0, []),
  (83, 2, false, .bipush 12, 12, 0, 0, []), (85, 3, false, .invokespecial 29, 181, 2, 1, [0]), (88, 3, false, .putfield 42, 9, 6, 2, [0]), (91, 1, false, .aload_n 0, 0, 0, 0, []),
  (92, 3, false, .new 27, 5, 1, 0, []), (95, 1, false, .dup, 0, 0, 0, []), (96, 2, false, .bipush 12, 12, 0, 0, []), (98, 3, false, .invokespecial 29, 181, 2, 1, [0]),
  (101, 3, false, .putfield 45, 9, 7, 2, [0]), (104, 1, false, .aload_n 0, 0, 0, 0, []), (105, 3, false, .new 27, 5, 1, 0, []), (108, 1, false, .dup, 0, 0, 0, []),
  (109, 2, false, .bipush 64, 64, 0, 0, []), (111, 3, false, .invokespecial 29, 181, 2, 1, [0]), (114, 3, false, .putfield 48, 9, 8, 2, [0]), (117, 1, false, .return_, 0, 0, 0, [])]
def k_Worth_above : List El := [(0, 1, false, .aload_n 0, 0, 0, 0, []), (1, 3, false, .getfield 51, 9, 9, 1, [0]), (4, 1, false, .lreturn, 0, 0, 0, [])]
def k_Worth_below : List El := [(0, 1, false, .aload_n 0, 0, 0, 0, []), (1, 3, false, .getfield 55, 9, 10, 1, [0]), (4, 1, false, .lreturn, 0, 0, 0, [])]
def k_Worth_measure : List El := [(0, 1, false, .iconst 0, 0, 0, 0, []), (1, 1, false, .istore_n 1, 1, 0, 0, []), (2, 1, true, .iload_n 1, 1, 0, 0, []), (3, 1, false, .aload_n 0, 0, 0, 0, []),
  (4, 3, false, .getfield 9, 9, 0, 2, [0]), (7, 3, false, .getfield 58, 6, 2, 2, [1]), (10, 3, false, .invokevirtual 63, 228, 1, 0, [0, 8]), (13, 3, false, .if_icmp .ge 87, 100, 0, 0, []),
  (16, 1, false, .iconst 0, 0, 0, 0, []), (17, 1, false, .istore_n 2, 2, 0, 0, []), (18, 1, true, .iload_n 2, 2, 0, 0, []), (19, 1, false, .aload_n 0, 0, 0, 0, []),
  (20, 3, false, .getfield 9, 9, 0, 2, [0]), (23, 3, false, .getfield 67, 6, 3, 2, [1]), (26, 3, false, .invokevirtual 63, 228, 1, 0, [0, 8]), (29, 3, false, .if_icmp .ge 65, 94, 0, 0, []),
  (32, 1, false, .aload_n 0, 0, 0, 0, []), (33, 3, false, .getfield 9, 9, 0, 2, [0]), (36, 3, false, .getfield 67, 6, 3, 2, [1]), (39, 1, false, .iload_n 2, 2, 0, 0, []),
  (40, 1, false, .iconst 0, 0, 0, 0, []), (41, 3, false, .invokevirtual 70, 230, 3, 0, [0, 8]), (44, 1, false, .aload_n 0, 0, 0, 0, []), (45, 3, false, .getfield 9, 9, 0, 2, [0]),
  (48, 3, false, .getfield 67, 6, 3, 2, [1]), (51, 1, false, .iload_n 2, 2, 0, 0, []), (52, 1, false, .iconst 1, 1, 0, 0, []), (53, 3, false, .invokevirtual 70, 230, 3, 0, [0, 8]),
  (56, 3, false, .invokestatic 74, 40, 2, 0, [1]), (59, 1, false, .istore_n 3, 3, 0, 0, []), (60, 1, false, .aload_n 0, 0, 0, 0, []), (61, 3, false, .getfield 20, 9, 1, 2, [0]),
  (64, 1, false, .iload_n 1, 1, 0, 0, []), (65, 1, false, .iload_n 2, 2, 0, 0, []), (66, 1, false, .aload_n 0, 0, 0, 0, []), (67, 3, false, .getfield 9, 9, 0, 2, [0]),
  (70, 2, false, .bipush 6, 6, 0, 0, []), (72, 3, false, .invokevirtual 77, 190, 2, 0, [0, 6]), (75, 1, false, .aload_n 0, 0, 0, 0, []), (76, 3, false, .getfield 9, 9, 0, 2, [0]),
  (79, 1, false, .iload_n 1, 1, 0, 0, []), (80, 1, false, .iload_n 3, 3, 0, 0, []), (81, 3, false, .invokevirtual 81, 199, 3, 0, [0, 6]), (84, 1, false, .imul, 0, 0, 0, []),
  (85, 3, false, .invokevirtual 84, 231, 4, 0, [0, 8]), (88, 3, false, .iinc 2 1, 2, 1, 0, []), (91, 3, false, .goto (-73), 18, 0, 0, []), (94, 3, false, .iinc 1 1, 1, 1, 0, []),
  (97, 3, false, .goto (-95), 2, 0, 0, []), (100, 1, false, .return_, 0, 0, 0, [])]
def k_Worth_of : List El := [(0, 1, false, .aload_n 0, 0, 0, 0, []), (1, 3, false, .getfield 24, 9, 2, 2, [0]), (4, 3, false, .invokevirtual 88, 237, 1, 0, [0, 8]), (7, 1, false, .aload_n 0, 0, 0, 0, []),
  (8, 3, false, .getfield 36, 9, 4, 2, [0]), (11, 1, false, .iconst 0, 0, 0, 0, []), (12, 3, false, .invokevirtual 91, 185, 2, 0, [0, 5]), (15, 1, false, .iconst 0, 0, 0, 0, []),
  (16, 1, false, .istore_n 2, 2, 0, 0, []), (17, 1, true, .iload_n 2, 2, 0, 0, []), (18, 1, false, .aload_n 0, 0, 0, 0, []), (19, 3, false, .getfield 9, 9, 0, 2, [0]),
  (22, 3, false, .getfield 58, 6, 2, 2, [1]), (25, 3, false, .invokevirtual 63, 228, 1, 0, [0, 8]), (28, 3, false, .if_icmp .ge 42, 70, 0, 0, []), (31, 1, false, .aload_n 0, 0, 0, 0, []),
  (32, 3, false, .getfield 32, 9, 3, 2, [0]), (35, 1, false, .iload_n 2, 2, 0, 0, []), (36, 1, false, .iload_n 1, 1, 0, 0, []), (37, 1, false, .iload_n 2, 2, 0, 0, []),
  (38, 1, false, .ishr, 0, 0, 0, []), (39, 1, false, .iconst 1, 1, 0, 0, []), (40, 1, false, .iand, 0, 0, 0, []), (41, 1, false, .iconst 1, 1, 0, 0, []),
  (42, 3, false, .if_icmp .ne 18, 60, 0, 0, []), (45, 1, false, .aload_n 0, 0, 0, 0, []), (46, 3, false, .getfield 9, 9, 0, 2, [0]), (49, 3, false, .getfield 58, 6, 2, 2, [1]),
  (52, 1, false, .iload_n 2, 2, 0, 0, []), (53, 1, false, .iconst 4, 4, 0, 0, []), (54, 3, false, .invokevirtual 70, 230, 3, 0, [0, 8]), (57, 3, false, .goto 4, 61, 0, 0, []),
  (60, 1, false, .iconst 0, 0, 0, 0, []), (61, 3, false, .invokevirtual 94, 183, 3, 0, [0, 5]), (64, 3, false, .iinc 2 1, 2, 1, 0, []), (67, 3, false, .goto (-50), 17, 0, 0, []),
  (70, 1, false, .iconst 0, 0, 0, 0, []), (71, 1, false, .istore_n 2, 2, 0, 0, []), (72, 1, false, .iconst 0, 0, 0, 0, []), (73, 1, false, .istore_n 3, 3, 0, 0, []),
  (74, 1, true, .iload_n 3, 3, 0, 0, []), (75, 1, false, .aload_n 0, 0, 0, 0, []), (76, 3, false, .getfield 9, 9, 0, 2, [0]), (79, 3, false, .getfield 67, 6, 3, 2, [1]),
  (82, 3, false, .invokevirtual 63, 228, 1, 0, [0, 8]), (85, 3, false, .if_icmp .ge 48, 133, 0, 0, []), (88, 1, false, .aload_n 0, 0, 0, 0, []), (89, 3, false, .invokevirtual 96, 245, 1, 0, [0, 9]),
  (92, 2, false, .istore 4, 4, 0, 0, []), (94, 1, false, .aload_n 0, 0, 0, 0, []), (95, 3, false, .getfield 36, 9, 4, 2, [0]), (98, 2, false, .iload 4, 4, 0, 0, []),
  (100, 1, false, .iconst 1, 1, 0, 0, []), (101, 3, false, .invokevirtual 94, 183, 3, 0, [0, 5]), (104, 1, false, .iload_n 2, 2, 0, 0, []), (105, 1, false, .aload_n 0, 0, 0, 0, []),
  (106, 3, false, .getfield 9, 9, 0, 2, [0]), (109, 3, false, .getfield 67, 6, 3, 2, [1]), (112, 2, false, .iload 4, 4, 0, 0, []), (114, 1, false, .iconst 5, 5, 0, 0, []),
  (115, 3, false, .invokevirtual 70, 230, 3, 0, [0, 8]), (118, 1, false, .aload_n 0, 0, 0, 0, []), (119, 2, false, .iload 4, 4, 0, 0, []), (121, 3, false, .invokevirtual 99, 246, 2, 0, [0, 9]),
  (124, 1, false, .imul, 0, 0, 0, []), (125, 1, false, .iadd, 0, 0, 0, []), (126, 1, false, .istore_n 2, 2, 0, 0, []), (127, 3, false, .iinc 3 1, 3, 1, 0, []),
  (130, 3, false, .goto (-56), 74, 0, 0, []), (133, 1, false, .iload_n 2, 2, 0, 0, []), (134, 1, false, .ireturn, 0, 0, 0, [])]
def k_Worth_dearestLeft : List El := [(0, 1, false, .iconst (-1), 1, 0, 1, []), (1, 1, false, .istore_n 1, 1, 0, 0, []), (2, 1, false, .iconst 0, 0, 0, 0, []), (3, 1, false, .istore_n 2, 2, 0, 0, []),
  (4, 1, true, .iload_n 2, 2, 0, 0, []), (5, 1, false, .aload_n 0, 0, 0, 0, []), (6, 3, false, .getfield 9, 9, 0, 2, [0]), (9, 3, false, .getfield 67, 6, 3, 2, [1]),
  (12, 3, false, .invokevirtual 63, 228, 1, 0, [0, 8]), (15, 3, false, .if_icmp .ge 64, 79, 0, 0, []), (18, 1, false, .iload_n 1, 1, 0, 0, []), (19, 1, false, .iconst (-1), 1, 0, 1, []),
  (20, 3, false, .if_icmp .eq 30, 50, 0, 0, []), (23, 1, false, .aload_n 0, 0, 0, 0, []), (24, 3, false, .getfield 9, 9, 0, 2, [0]), (27, 3, false, .getfield 67, 6, 3, 2, [1]),
  (30, 1, false, .iload_n 2, 2, 0, 0, []), (31, 1, false, .iconst 5, 5, 0, 0, []), (32, 3, false, .invokevirtual 70, 230, 3, 0, [0, 8]), (35, 1, false, .aload_n 0, 0, 0, 0, []),
  (36, 3, false, .getfield 9, 9, 0, 2, [0]), (39, 3, false, .getfield 67, 6, 3, 2, [1]), (42, 1, false, .iload_n 1, 1, 0, 0, []), (43, 1, false, .iconst 5, 5, 0, 0, []),
  (44, 3, false, .invokevirtual 70, 230, 3, 0, [0, 8]), (47, 3, false, .if_icmp .le 7, 54, 0, 0, []), (50, 1, false, .iconst 1, 1, 0, 0, []), (51, 3, false, .goto 4, 55, 0, 0, []),
  (54, 1, false, .iconst 0, 0, 0, 0, []), (55, 1, false, .istore_n 3, 3, 0, 0, []), (56, 1, false, .aload_n 0, 0, 0, 0, []), (57, 3, false, .getfield 36, 9, 4, 2, [0]),
  (60, 1, false, .iload_n 2, 2, 0, 0, []), (61, 3, false, .invokevirtual 102, 182, 2, 0, [0, 5]), (64, 3, false, .ifCond .ne 9, 73, 0, 0, []), (67, 1, false, .iload_n 3, 3, 0, 0, []),
  (68, 3, false, .ifCond .eq 5, 73, 0, 0, []), (71, 1, false, .iload_n 2, 2, 0, 0, []), (72, 1, false, .istore_n 1, 1, 0, 0, []), (73, 3, false, .iinc 2 1, 2, 1, 0, []),
  (76, 3, false, .goto (-72), 4, 0, 0, []), (79, 1, false, .iload_n 1, 1, 0, 0, []), (80, 1, false, .ireturn, 0, 0, 0, [])]
def k_Worth_quench : List El := [(0, 1, false, .aload_n 0, 0, 0, 0, []), (1, 3, false, .getfield 9, 9, 0, 2, [0]), (4, 3, false, .getfield 67, 6, 3, 2, [1]), (7, 1, false, .iload_n 1, 1, 0, 0, []),
  (8, 1, false, .iconst 3, 3, 0, 0, []), (9, 3, false, .invokevirtual 70, 230, 3, 0, [0, 8]), (12, 1, false, .istore_n 2, 2, 0, 0, []), (13, 1, false, .iconst 0, 0, 0, 0, []),
  (14, 1, false, .istore_n 3, 3, 0, 0, []), (15, 1, false, .iconst 0, 0, 0, 0, []), (16, 2, false, .istore 4, 4, 0, 0, []), (18, 2, true, .iload 4, 4, 0, 0, []),
  (20, 1, false, .iload_n 2, 2, 0, 0, []), (21, 3, false, .if_icmp .ge 42, 63, 0, 0, []), (24, 1, false, .iload_n 3, 3, 0, 0, []), (25, 1, false, .iload_n 2, 2, 0, 0, []),
  (26, 3, false, .if_icmp .ge 37, 63, 0, 0, []), (29, 1, false, .aload_n 0, 0, 0, 0, []), (30, 1, false, .iload_n 1, 1, 0, 0, []), (31, 3, false, .invokevirtual 104, 247, 2, 0, [0, 9]),
  (34, 2, false, .istore 5, 5, 0, 0, []), (36, 2, false, .iload 5, 5, 0, 0, []), (38, 1, false, .iconst (-1), 1, 0, 1, []), (39, 3, false, .if_icmp .ne 5, 44, 0, 0, []),
  (42, 1, false, .iload_n 3, 3, 0, 0, []), (43, 1, false, .ireturn, 0, 0, 0, []), (44, 1, false, .iload_n 3, 3, 0, 0, []), (45, 1, false, .aload_n 0, 0, 0, 0, []),
  (46, 2, false, .iload 5, 5, 0, 0, []), (48, 1, false, .iload_n 1, 1, 0, 0, []), (49, 1, false, .iload_n 2, 2, 0, 0, []), (50, 1, false, .iload_n 3, 3, 0, 0, []),
  (51, 1, false, .isub, 0, 0, 0, []), (52, 3, false, .invokevirtual 107, 249, 4, 0, [0, 9]), (55, 1, false, .iadd, 0, 0, 0, []), (56, 1, false, .istore_n 3, 3, 0, 0, []),
  (57, 3, false, .iinc 4 1, 4, 1, 0, []), (60, 3, false, .goto (-42), 18, 0, 0, []), (63, 1, false, .iload_n 3, 3, 0, 0, []), (64, 1, false, .ireturn, 0, 0, 0, [])]
def k_Worth_findWater : List El := [(0, 1, false, .aload_n 0, 0, 0, 0, []), (1, 3, false, .getfield 39, 9, 5, 2, [0]), (4, 1, false, .iconst (-1), 1, 0, 1, []), (5, 3, false, .invokevirtual 91, 185, 2, 0, [0, 5]),
  (8, 1, false, .aload_n 0, 0, 0, 0, []), (9, 3, false, .getfield 42, 9, 6, 2, [0]), (12, 1, false, .iconst (-1), 1, 0, 1, []), (13, 3, false, .invokevirtual 91, 185, 2, 0, [0, 5]),
  (16, 1, false, .aload_n 0, 0, 0, 0, []), (17, 3, false, .getfield 45, 9, 7, 2, [0]), (20, 1, false, .iconst 0, 0, 0, 0, []), (21, 1, false, .iload_n 1, 1, 0, 0, []),
  (22, 3, false, .invokevirtual 94, 183, 3, 0, [0, 5]), (25, 1, false, .iconst 1, 1, 0, 0, []), (26, 1, false, .istore_n 2, 2, 0, 0, []), (27, 1, false, .iconst 0, 0, 0, 0, []),
  (28, 1, false, .istore_n 3, 3, 0, 0, []), (29, 1, true, .iload_n 3, 3, 0, 0, []), (30, 1, false, .iload_n 2, 2, 0, 0, []), (31, 3, false, .if_icmp .ge 122, 153, 0, 0, []),
  (34, 1, false, .iload_n 3, 3, 0, 0, []), (35, 2, false, .bipush 12, 12, 0, 0, []), (37, 3, false, .if_icmp .ge 116, 153, 0, 0, []), (40, 1, false, .aload_n 0, 0, 0, 0, []),
  (41, 3, false, .getfield 45, 9, 7, 2, [0]), (44, 1, false, .iload_n 3, 3, 0, 0, []), (45, 3, false, .invokevirtual 102, 182, 2, 0, [0, 5]), (48, 2, false, .istore 4, 4, 0, 0, []),
  (50, 1, false, .iconst 0, 0, 0, 0, []), (51, 2, false, .istore 5, 5, 0, 0, []), (53, 2, true, .iload 5, 5, 0, 0, []), (55, 1, false, .aload_n 0, 0, 0, 0, []),
  (56, 3, false, .getfield 9, 9, 0, 2, [0]), (59, 3, false, .getfield 58, 6, 2, 2, [1]), (62, 3, false, .invokevirtual 63, 228, 1, 0, [0, 8]), (65, 3, false, .if_icmp .ge 82, 147, 0, 0, []),
  (68, 1, false, .aload_n 0, 0, 0, 0, []), (69, 3, false, .getfield 39, 9, 5, 2, [0]), (72, 2, false, .iload 5, 5, 0, 0, []), (74, 3, false, .invokevirtual 102, 182, 2, 0, [0, 5]),
  (77, 1, false, .iconst (-1), 1, 0, 1, []), (78, 3, false, .if_icmp .ne 63, 141, 0, 0, []), (81, 1, false, .aload_n 0, 0, 0, 0, []), (82, 3, false, .getfield 20, 9, 1, 2, [0]),
  (85, 2, false, .iload 5, 5, 0, 0, []), (87, 2, false, .iload 4, 4, 0, 0, []), (89, 3, false, .invokevirtual 70, 230, 3, 0, [0, 8]), (92, 1, false, .aload_n 0, 0, 0, 0, []),
  (93, 3, false, .getfield 24, 9, 2, 2, [0]), (96, 2, false, .iload 5, 5, 0, 0, []), (98, 2, false, .iload 4, 4, 0, 0, []), (100, 3, false, .invokevirtual 70, 230, 3, 0, [0, 8]),
  (103, 3, false, .if_icmp .le 38, 141, 0, 0, []), (106, 1, false, .aload_n 0, 0, 0, 0, []), (107, 3, false, .getfield 39, 9, 5, 2, [0]), (110, 2, false, .iload 5, 5, 0, 0, []),
  (112, 2, false, .iload 4, 4, 0, 0, []), (114, 3, false, .invokevirtual 94, 183, 3, 0, [0, 5]), (117, 1, false, .aload_n 0, 0, 0, 0, []), (118, 3, false, .getfield 32, 9, 3, 2, [0]),
  (121, 2, false, .iload 5, 5, 0, 0, []), (123, 3, false, .invokevirtual 102, 182, 2, 0, [0, 5]), (126, 3, false, .ifCond .le 6, 132, 0, 0, []), (129, 2, false, .iload 5, 5, 0, 0, []),
  (131, 1, false, .ireturn, 0, 0, 0, []), (132, 1, false, .aload_n 0, 0, 0, 0, []), (133, 2, false, .iload 5, 5, 0, 0, []), (135, 1, false, .iload_n 1, 1, 0, 0, []),
  (136, 1, false, .iload_n 2, 2, 0, 0, []), (137, 3, false, .invokevirtual 111, 248, 4, 0, [0, 9]), (140, 1, false, .istore_n 2, 2, 0, 0, []), (141, 3, false, .iinc 5 1, 5, 1, 0, []),
  (144, 3, false, .goto (-91), 53, 0, 0, []), (147, 3, false, .iinc 3 1, 3, 1, 0, []), (150, 3, false, .goto (-121), 29, 0, 0, []), (153, 1, false, .iconst (-1), 1, 0, 1, []),
  (154, 1, false, .ireturn, 0, 0, 0, [])]
def k_Worth_queueServed : List El := [(0, 1, false, .iload_n 3, 3, 0, 0, []), (1, 2, false, .istore 4, 4, 0, 0, []), (3, 1, false, .iconst 0, 0, 0, 0, []), (4, 2, false, .istore 5, 5, 0, 0, []),
  (6, 2, true, .iload 5, 5, 0, 0, []), (8, 1, false, .aload_n 0, 0, 0, 0, []), (9, 3, false, .getfield 9, 9, 0, 2, [0]), (12, 3, false, .getfield 67, 6, 3, 2, [1]),
  (15, 3, false, .invokevirtual 63, 228, 1, 0, [0, 8]), (18, 3, false, .if_icmp .ge 65, 83, 0, 0, []), (21, 2, false, .iload 5, 5, 0, 0, []), (23, 1, false, .iload_n 2, 2, 0, 0, []),
  (24, 3, false, .if_icmp .eq 53, 77, 0, 0, []), (27, 1, false, .aload_n 0, 0, 0, 0, []), (28, 3, false, .getfield 42, 9, 6, 2, [0]), (31, 2, false, .iload 5, 5, 0, 0, []),
  (33, 3, false, .invokevirtual 102, 182, 2, 0, [0, 5]), (36, 1, false, .iconst (-1), 1, 0, 1, []), (37, 3, false, .if_icmp .ne 40, 77, 0, 0, []), (40, 1, false, .aload_n 0, 0, 0, 0, []),
  (41, 3, false, .getfield 24, 9, 2, 2, [0]), (44, 1, false, .iload_n 1, 1, 0, 0, []), (45, 2, false, .iload 5, 5, 0, 0, []), (47, 3, false, .invokevirtual 70, 230, 3, 0, [0, 8]),
  (50, 3, false, .ifCond .le 27, 77, 0, 0, []), (53, 1, false, .aload_n 0, 0, 0, 0, []), (54, 3, false, .getfield 42, 9, 6, 2, [0]), (57, 2, false, .iload 5, 5, 0, 0, []),
  (59, 1, false, .iload_n 1, 1, 0, 0, []), (60, 3, false, .invokevirtual 94, 183, 3, 0, [0, 5]), (63, 1, false, .aload_n 0, 0, 0, 0, []), (64, 3, false, .getfield 45, 9, 7, 2, [0]),
  (67, 2, false, .iload 4, 4, 0, 0, []), (69, 2, false, .iload 5, 5, 0, 0, []), (71, 3, false, .invokevirtual 94, 183, 3, 0, [0, 5]), (74, 3, false, .iinc 4 1, 4, 1, 0, []),
  (77, 3, false, .iinc 5 1, 5, 1, 0, []), (80, 3, false, .goto (-74), 6, 0, 0, []), (83, 2, false, .iload 4, 4, 0, 0, []), (85, 1, false, .ireturn, 0, 0, 0, [])]
def k_Worth_lead : List El := [(0, 1, false, .iload_n 3, 3, 0, 0, []), (1, 1, false, .aload_n 0, 0, 0, 0, []), (2, 3, false, .getfield 32, 9, 3, 2, [0]), (5, 1, false, .iload_n 1, 1, 0, 0, []),
  (6, 3, false, .invokevirtual 102, 182, 2, 0, [0, 5]), (9, 3, false, .invokestatic 114, 0, 0, 4, []), (12, 2, false, .istore 4, 4, 0, 0, []), (14, 1, false, .iload_n 1, 1, 0, 0, []),
  (15, 2, false, .istore 5, 5, 0, 0, []), (17, 1, false, .iconst 0, 0, 0, 0, []), (18, 2, false, .istore 6, 6, 0, 0, []), (20, 2, true, .iload 6, 6, 0, 0, []),
  (22, 2, false, .bipush 8, 8, 0, 0, []), (24, 3, false, .if_icmp .ge 88, 112, 0, 0, []), (27, 1, false, .aload_n 0, 0, 0, 0, []), (28, 3, false, .getfield 39, 9, 5, 2, [0]),
  (31, 2, false, .iload 5, 5, 0, 0, []), (33, 3, false, .invokevirtual 102, 182, 2, 0, [0, 5]), (36, 2, false, .istore 7, 7, 0, 0, []), (38, 2, false, .iload 4, 4, 0, 0, []),
  (40, 1, false, .aload_n 0, 0, 0, 0, []), (41, 3, false, .getfield 20, 9, 1, 2, [0]), (44, 2, false, .iload 5, 5, 0, 0, []), (46, 2, false, .iload 7, 7, 0, 0, []),
  (48, 3, false, .invokevirtual 70, 230, 3, 0, [0, 8]), (51, 1, false, .aload_n 0, 0, 0, 0, []), (52, 3, false, .getfield 24, 9, 2, 2, [0]), (55, 2, false, .iload 5, 5, 0, 0, []),
  (57, 2, false, .iload 7, 7, 0, 0, []), (59, 3, false, .invokevirtual 70, 230, 3, 0, [0, 8]), (62, 1, false, .isub, 0, 0, 0, []), (63, 3, false, .invokestatic 114, 0, 0, 4, []),
  (66, 2, false, .istore 4, 4, 0, 0, []), (68, 2, false, .iload 7, 7, 0, 0, []), (70, 1, false, .iload_n 2, 2, 0, 0, []), (71, 3, false, .if_icmp .ne 6, 77, 0, 0, []),
  (74, 3, false, .goto 38, 112, 0, 0, []), (77, 1, false, .aload_n 0, 0, 0, 0, []), (78, 3, false, .getfield 42, 9, 6, 2, [0]), (81, 2, false, .iload 7, 7, 0, 0, []),
  (83, 3, false, .invokevirtual 102, 182, 2, 0, [0, 5]), (86, 2, false, .istore 5, 5, 0, 0, []), (88, 2, false, .iload 4, 4, 0, 0, []), (90, 1, false, .aload_n 0, 0, 0, 0, []),
  (91, 3, false, .getfield 24, 9, 2, 2, [0]), (94, 2, false, .iload 5, 5, 0, 0, []), (96, 2, false, .iload 7, 7, 0, 0, []), (98, 3, false, .invokevirtual 70, 230, 3, 0, [0, 8]),
  (101, 3, false, .invokestatic 114, 0, 0, 4, []), (104, 2, false, .istore 4, 4, 0, 0, []), (106, 3, false, .iinc 6 1, 6, 1, 0, []), (109, 3, false, .goto (-89), 20, 0, 0, []),
  (112, 1, false, .aload_n 0, 0, 0, 0, []), (113, 3, false, .getfield 32, 9, 3, 2, [0]), (116, 1, false, .iload_n 1, 1, 0, 0, []), (117, 2, false, .iload 4, 4, 0, 0, []),
  (119, 1, false, .ineg, 0, 0, 0, []), (120, 3, false, .invokevirtual 119, 184, 3, 0, [0, 5]), (123, 1, false, .iload_n 1, 1, 0, 0, []), (124, 2, false, .istore 5, 5, 0, 0, []),
  (126, 1, false, .iconst 0, 0, 0, 0, []), (127, 2, false, .istore 6, 6, 0, 0, []), (129, 2, true, .iload 6, 6, 0, 0, []), (131, 2, false, .bipush 8, 8, 0, 0, []),
  (133, 3, false, .if_icmp .ge 67, 200, 0, 0, []), (136, 1, false, .aload_n 0, 0, 0, 0, []), (137, 3, false, .getfield 39, 9, 5, 2, [0]), (140, 2, false, .iload 5, 5, 0, 0, []),
  (142, 3, false, .invokevirtual 102, 182, 2, 0, [0, 5]), (145, 2, false, .istore 7, 7, 0, 0, []), (147, 1, false, .aload_n 0, 0, 0, 0, []), (148, 3, false, .getfield 24, 9, 2, 2, [0]),
  (151, 2, false, .iload 5, 5, 0, 0, []), (153, 2, false, .iload 7, 7, 0, 0, []), (155, 2, false, .iload 4, 4, 0, 0, []), (157, 3, false, .invokevirtual 122, 232, 4, 0, [0, 8]),
  (160, 2, false, .iload 7, 7, 0, 0, []), (162, 1, false, .iload_n 2, 2, 0, 0, []), (163, 3, false, .if_icmp .ne 6, 169, 0, 0, []), (166, 3, false, .goto 34, 200, 0, 0, []),
  (169, 1, false, .aload_n 0, 0, 0, 0, []), (170, 3, false, .getfield 42, 9, 6, 2, [0]), (173, 2, false, .iload 7, 7, 0, 0, []), (175, 3, false, .invokevirtual 102, 182, 2, 0, [0, 5]),
  (178, 2, false, .istore 5, 5, 0, 0, []), (180, 1, false, .aload_n 0, 0, 0, 0, []), (181, 3, false, .getfield 24, 9, 2, 2, [0]), (184, 2, false, .iload 5, 5, 0, 0, []),
  (186, 2, false, .iload 7, 7, 0, 0, []), (188, 2, false, .iload 4, 4, 0, 0, []), (190, 1, false, .ineg, 0, 0, 0, []), (191, 3, false, .invokevirtual 122, 232, 4, 0, [0, 8]),
  (194, 3, false, .iinc 6 1, 6, 1, 0, []), (197, 3, false, .goto (-68), 129, 0, 0, []), (200, 2, false, .iload 4, 4, 0, 0, []), (202, 1, false, .ireturn, 0, 0, 0, [])]
def k_Worth_shareOut : List El := [(0, 1, false, .aload_n 0, 0, 0, 0, []), (1, 3, false, .getfield 9, 9, 0, 2, [0]), (4, 3, false, .getfield 58, 6, 2, 2, [1]), (7, 3, false, .invokevirtual 63, 228, 1, 0, [0, 8]),
  (10, 2, false, .bipush 6, 6, 0, 0, []), (12, 3, false, .invokestatic 114, 0, 0, 4, []), (15, 1, false, .istore_n 2, 2, 0, 0, []), (16, 1, false, .aload_n 0, 0, 0, 0, []),
  (17, 3, false, .invokevirtual 124, 243, 1, 0, [0, 9]), (20, 1, false, .iconst 0, 0, 0, 0, []), (21, 1, false, .istore_n 3, 3, 0, 0, []), (22, 1, true, .iload_n 3, 3, 0, 0, []),
  (23, 1, false, .iconst 1, 1, 0, 0, []), (24, 1, false, .iload_n 2, 2, 0, 0, []), (25, 1, false, .ishl, 0, 0, 0, []), (26, 3, false, .if_icmp .ge 22, 48, 0, 0, []),
  (29, 1, false, .aload_n 0, 0, 0, 0, []), (30, 3, false, .getfield 48, 9, 8, 2, [0]), (33, 1, false, .iload_n 3, 3, 0, 0, []), (34, 1, false, .aload_n 0, 0, 0, 0, []),
  (35, 1, false, .iload_n 3, 3, 0, 0, []), (36, 3, false, .invokevirtual 127, 244, 2, 0, [0, 9]), (39, 3, false, .invokevirtual 94, 183, 3, 0, [0, 5]), (42, 3, false, .iinc 3 1, 3, 1, 0, []),
  (45, 3, false, .goto (-23), 22, 0, 0, []), (48, 1, false, .aload_n 0, 0, 0, 0, []), (49, 1, false, .lconst 0, 0, 0, 0, []), (50, 3, false, .putfield 51, 9, 9, 1, [0]),
  (53, 1, false, .iconst 0, 0, 0, 0, []), (54, 1, false, .istore_n 3, 3, 0, 0, []), (55, 1, true, .iload_n 3, 3, 0, 0, []), (56, 1, false, .iconst 1, 1, 0, 0, []),
  (57, 1, false, .iload_n 2, 2, 0, 0, []), (58, 1, false, .ishl, 0, 0, 0, []), (59, 3, false, .if_icmp .ge 76, 135, 0, 0, []), (62, 1, false, .iload_n 3, 3, 0, 0, []),
  (63, 1, false, .iload_n 1, 1, 0, 0, []), (64, 1, false, .ishr, 0, 0, 0, []), (65, 1, false, .iconst 1, 1, 0, 0, []), (66, 1, false, .iand, 0, 0, 0, []),
  (67, 3, false, .ifCond .ne 62, 129, 0, 0, []), (70, 1, false, .iload_n 3, 3, 0, 0, []), (71, 3, false, .invokestatic 130, 276, 1, 0, [0]), (74, 2, false, .istore 4, 4, 0, 0, []),
  (76, 2, false, .iload 4, 4, 0, 0, []), (78, 3, false, .invokestatic 135, 251, 1, 0, [0]), (81, 1, false, .i2l, 0, 0, 0, []), (82, 1, false, .iload_n 2, 2, 0, 0, []),
  (83, 1, false, .iconst 1, 1, 0, 0, []), (84, 1, false, .isub, 0, 0, 0, []), (85, 2, false, .iload 4, 4, 0, 0, []), (87, 1, false, .isub, 0, 0, 0, []),
  (88, 3, false, .invokestatic 135, 251, 1, 0, [0]), (91, 1, false, .i2l, 0, 0, 0, []), (92, 1, false, .lmul, 0, 0, 0, []), (93, 2, false, .lstore 5, 5, 0, 0, []),
  (95, 1, false, .aload_n 0, 0, 0, 0, []), (96, 1, false, .dup, 0, 0, 0, []), (97, 3, false, .getfield 51, 9, 9, 1, [0]), (100, 2, false, .lload 5, 5, 0, 0, []),
  (102, 1, false, .aload_n 0, 0, 0, 0, []), (103, 3, false, .getfield 48, 9, 8, 2, [0]), (106, 1, false, .iload_n 3, 3, 0, 0, []), (107, 1, false, .iconst 1, 1, 0, 0, []),
  (108, 1, false, .iload_n 1, 1, 0, 0, []), (109, 1, false, .ishl, 0, 0, 0, []), (110, 1, false, .ior, 0, 0, 0, []), (111, 3, false, .invokevirtual 102, 182, 2, 0, [0, 5]),
  (114, 1, false, .aload_n 0, 0, 0, 0, []), (115, 3, false, .getfield 48, 9, 8, 2, [0]), (118, 1, false, .iload_n 3, 3, 0, 0, []), (119, 3, false, .invokevirtual 102, 182, 2, 0, [0, 5]),
  (122, 1, false, .isub, 0, 0, 0, []), (123, 1, false, .i2l, 0, 0, 0, []), (124, 1, false, .lmul, 0, 0, 0, []), (125, 1, false, .ladd, 0, 0, 0, []),
  (126, 3, false, .putfield 51, 9, 9, 1, [0]), (129, 3, false, .iinc 3 1, 3, 1, 0, []), (132, 3, false, .goto (-77), 55, 0, 0, []), (135, 1, false, .aload_n 0, 0, 0, 0, []),
  (136, 1, false, .iload_n 2, 2, 0, 0, []), (137, 3, false, .invokestatic 135, 251, 1, 0, [0]), (140, 1, false, .i2l, 0, 0, 0, []), (141, 3, false, .putfield 55, 9, 10, 1, [0]),
  (144, 1, false, .aload_n 0, 0, 0, 0, []), (145, 3, false, .getfield 51, 9, 9, 1, [0]), (148, 1, false, .aload_n 0, 0, 0, 0, []), (149, 3, false, .getfield 55, 9, 10, 1, [0]),
  (152, 3, false, .invokestatic 138, 252, 2, 0, [0]), (155, 1, false, .lstore_n 3, 3, 0, 0, []), (156, 1, false, .lload_n 3, 3, 0, 0, []), (157, 1, false, .lconst 1, 1, 0, 0, []),
  (158, 1, false, .lcmp, 0, 0, 0, []), (159, 3, false, .ifCond .le 23, 182, 0, 0, []), (162, 1, false, .aload_n 0, 0, 0, 0, []), (163, 1, false, .dup, 0, 0, 0, []),
  (164, 3, false, .getfield 51, 9, 9, 1, [0]), (167, 1, false, .lload_n 3, 3, 0, 0, []), (168, 1, false, .ldiv, 0, 0, 0, []), (169, 3, false, .putfield 51, 9, 9, 1, [0]),
  (172, 1, false, .aload_n 0, 0, 0, 0, []), (173, 1, false, .dup, 0, 0, 0, []), (174, 3, false, .getfield 55, 9, 10, 1, [0]), (177, 1, false, .lload_n 3, 3, 0, 0, []),
  (178, 1, false, .ldiv, 0, 0, 0, []), (179, 3, false, .putfield 55, 9, 10, 1, [0]), (182, 1, false, .return_, 0, 0, 0, [])]
def k_Worth_ordersOf : List El := [(0, 1, false, .iconst 1, 1, 0, 0, []), (1, 1, false, .istore_n 1, 1, 0, 0, []), (2, 1, false, .iconst 2, 2, 0, 0, []), (3, 1, false, .istore_n 2, 2, 0, 0, []),
  (4, 1, true, .iload_n 2, 2, 0, 0, []), (5, 1, false, .iload_n 0, 0, 0, 0, []), (6, 3, false, .if_icmp .gt 19, 25, 0, 0, []), (9, 1, false, .iload_n 2, 2, 0, 0, []),
  (10, 2, false, .bipush 6, 6, 0, 0, []), (12, 3, false, .if_icmp .gt 13, 25, 0, 0, []), (15, 1, false, .iload_n 1, 1, 0, 0, []), (16, 1, false, .iload_n 2, 2, 0, 0, []),
  (17, 1, false, .imul, 0, 0, 0, []), (18, 1, false, .istore_n 1, 1, 0, 0, []), (19, 3, false, .iinc 2 1, 2, 1, 0, []), (22, 3, false, .goto (-18), 4, 0, 0, []),
  (25, 1, false, .iload_n 1, 1, 0, 0, []), (26, 1, false, .ireturn, 0, 0, 0, [])]
def k_Worth_commonOf : List El := [(0, 1, false, .lload_n 0, 0, 0, 0, []), (1, 2, false, .lstore 4, 4, 0, 0, []), (3, 1, false, .lload_n 2, 2, 0, 0, []), (4, 2, false, .lstore 6, 6, 0, 0, []),
  (6, 1, false, .iconst 0, 0, 0, 0, []), (7, 2, false, .istore 8, 8, 0, 0, []), (9, 2, true, .iload 8, 8, 0, 0, []), (11, 2, false, .bipush 100, 100, 0, 0, []),
  (13, 3, false, .if_icmp .ge 31, 44, 0, 0, []), (16, 2, false, .lload 6, 6, 0, 0, []), (18, 1, false, .lconst 0, 0, 0, 0, []), (19, 1, false, .lcmp, 0, 0, 0, []),
  (20, 3, false, .ifCond .eq 24, 44, 0, 0, []), (23, 2, false, .lload 4, 4, 0, 0, []), (25, 2, false, .lload 6, 6, 0, 0, []), (27, 1, false, .lrem, 0, 0, 0, []),
  (28, 2, false, .lstore 9, 9, 0, 0, []), (30, 2, false, .lload 6, 6, 0, 0, []), (32, 2, false, .lstore 4, 4, 0, 0, []), (34, 2, false, .lload 9, 9, 0, 0, []),
  (36, 2, false, .lstore 6, 6, 0, 0, []), (38, 3, false, .iinc 8 1, 8, 1, 0, []), (41, 3, false, .goto (-32), 9, 0, 0, []), (44, 2, false, .lload 4, 4, 0, 0, []),
  (46, 1, false, .lreturn, 0, 0, 0, [])]
def k_La_sky : List El := [(0, 1, false, .aload_n 2, 2, 0, 0, []), (1, 1, false, .iconst 0, 0, 0, 0, []), (2, 1, false, .aload_n 0, 0, 0, 0, []), (3, 1, false, .iload_n 1, 1, 0, 0, []),
  (4, 3, false, .invokevirtual 7, 2, 2, 1, [0, 10]), (7, 1, false, .i2l, 0, 0, 0, []), (8, 1, false, .lastore, 0, 0, 0, []), (9, 3, false, .goto 6, 15, 0, 0, []),
  (12, 1, false, .astore_n 3, 3, 0, 0, []), (13, 1, false, .iconst 1, 1, 0, 0, []), (14, 1, false, .ireturn, 0, 0, 0, []), (15, 1, false, .iconst 0, 0, 0, 0, []),
  (16, 1, false, .ireturn, 0, 0, 0, [])]
def k_La_told : List El := [(0, 1, false, .aload_n 2, 2, 0, 0, []), (1, 1, false, .iconst 0, 0, 0, 0, []), (2, 1, false, .aload_n 0, 0, 0, 0, []), (3, 1, false, .iload_n 1, 1, 0, 0, []),
  (4, 3, false, .invokevirtual 15, 4, 2, 1, [0, 10]), (7, 1, false, .i2l, 0, 0, 0, []), (8, 1, false, .lastore, 0, 0, 0, []), (9, 3, false, .goto 6, 15, 0, 0, []),
  (12, 1, false, .astore_n 3, 3, 0, 0, []), (13, 1, false, .iconst 1, 1, 0, 0, []), (14, 1, false, .ireturn, 0, 0, 0, []), (15, 1, false, .iconst 0, 0, 0, 0, []),
  (16, 1, false, .ireturn, 0, 0, 0, [])]
def k_La_owner : List El := [(0, 1, false, .aload_n 2, 2, 0, 0, []), (1, 1, false, .iconst 0, 0, 0, 0, []), (2, 1, false, .aload_n 0, 0, 0, 0, []), (3, 1, false, .iload_n 1, 1, 0, 0, []),
  (4, 3, false, .invokevirtual 18, 5, 2, 1, [0, 10]), (7, 1, false, .i2l, 0, 0, 0, []), (8, 1, false, .lastore, 0, 0, 0, []), (9, 3, false, .goto 6, 15, 0, 0, []),
  (12, 1, false, .astore_n 3, 3, 0, 0, []), (13, 1, false, .iconst 1, 1, 0, 0, []), (14, 1, false, .ireturn, 0, 0, 0, []), (15, 1, false, .iconst 0, 0, 0, 0, []),
  (16, 1, false, .ireturn, 0, 0, 0, [])]
def k_La_path : List El := [(0, 1, false, .aload_n 3, 3, 0, 0, []), (1, 1, false, .iconst 0, 0, 0, 0, []), (2, 1, false, .aload_n 0, 0, 0, 0, []), (3, 1, false, .iload_n 1, 1, 0, 0, []),
  (4, 1, false, .iload_n 2, 2, 0, 0, []), (5, 3, false, .invokevirtual 23, 6, 3, 1, [0, 10]), (8, 1, false, .i2l, 0, 0, 0, []), (9, 1, false, .lastore, 0, 0, 0, []),
  (10, 3, false, .goto 11, 21, 0, 0, []), (13, 2, false, .astore 4, 4, 0, 0, []), (15, 1, false, .iconst 1, 1, 0, 0, []), (16, 1, false, .ireturn, 0, 0, 0, []),
  (17, 2, false, .astore 4, 4, 0, 0, []), (19, 1, false, .iconst 2, 2, 0, 0, []), (20, 1, false, .ireturn, 0, 0, 0, []), (21, 1, false, .iconst 0, 0, 0, 0, []),
  (22, 1, false, .ireturn, 0, 0, 0, [])]
def k_La_field : List El := [(0, 1, false, .aload_n 3, 3, 0, 0, []), (1, 1, false, .iconst 0, 0, 0, 0, []), (2, 1, false, .aload_n 0, 0, 0, 0, []), (3, 1, false, .iload_n 1, 1, 0, 0, []),
  (4, 1, false, .iload_n 2, 2, 0, 0, []), (5, 3, false, .invokevirtual 27, 7, 3, 1, [0, 10]), (8, 1, false, .i2l, 0, 0, 0, []), (9, 1, false, .lastore, 0, 0, 0, []),
  (10, 3, false, .goto 11, 21, 0, 0, []), (13, 2, false, .astore 4, 4, 0, 0, []), (15, 1, false, .iconst 1, 1, 0, 0, []), (16, 1, false, .ireturn, 0, 0, 0, []),
  (17, 2, false, .astore 4, 4, 0, 0, []), (19, 1, false, .iconst 2, 2, 0, 0, []), (20, 1, false, .ireturn, 0, 0, 0, []), (21, 1, false, .iconst 0, 0, 0, 0, []),
  (22, 1, false, .ireturn, 0, 0, 0, [])]
def k_La_order : List El := [(0, 2, false, .aload 5, 5, 0, 0, []), (2, 1, false, .iconst 0, 0, 0, 0, []), (3, 1, false, .aload_n 0, 0, 0, 0, []), (4, 1, false, .iload_n 1, 1, 0, 0, []),
  (5, 1, false, .iload_n 2, 2, 0, 0, []), (6, 1, false, .iload_n 3, 3, 0, 0, []), (7, 2, false, .iload 4, 4, 0, 0, []), (9, 3, false, .invokevirtual 32, 8, 5, 1, [0, 10]),
  (12, 1, false, .i2l, 0, 0, 0, []), (13, 1, false, .lastore, 0, 0, 0, []), (14, 3, false, .goto 11, 25, 0, 0, []), (17, 2, false, .astore 6, 6, 0, 0, []),
  (19, 1, false, .iconst 1, 1, 0, 0, []), (20, 1, false, .ireturn, 0, 0, 0, []), (21, 2, false, .astore 6, 6, 0, 0, []), (23, 1, false, .iconst 2, 2, 0, 0, []),
  (24, 1, false, .ireturn, 0, 0, 0, []), (25, 1, false, .iconst 0, 0, 0, 0, []), (26, 1, false, .ireturn, 0, 0, 0, [])]
def k_La_day : List El := [(0, 1, false, .aload_n 3, 3, 0, 0, []), (1, 1, false, .iconst 0, 0, 0, 0, []), (2, 1, false, .aload_n 0, 0, 0, 0, []), (3, 1, false, .iload_n 1, 1, 0, 0, []),
  (4, 1, false, .iload_n 2, 2, 0, 0, []), (5, 3, false, .invokevirtual 36, 10, 3, 1, [0, 10]), (8, 1, false, .i2l, 0, 0, 0, []), (9, 1, false, .lastore, 0, 0, 0, []),
  (10, 3, false, .goto 7, 17, 0, 0, []), (13, 2, false, .astore 4, 4, 0, 0, []), (15, 1, false, .iconst 1, 1, 0, 0, []), (16, 1, false, .ireturn, 0, 0, 0, []),
  (17, 1, false, .iconst 0, 0, 0, 0, []), (18, 1, false, .ireturn, 0, 0, 0, [])]
def k_La_cloud : List El := [(0, 2, false, .aload 5, 5, 0, 0, []), (2, 1, false, .iconst 0, 0, 0, 0, []), (3, 1, false, .aload_n 0, 0, 0, 0, []), (4, 1, false, .iload_n 1, 1, 0, 0, []),
  (5, 1, false, .iload_n 2, 2, 0, 0, []), (6, 1, false, .iload_n 3, 3, 0, 0, []), (7, 2, false, .iload 4, 4, 0, 0, []), (9, 3, false, .invokevirtual 39, 11, 5, 1, [0, 10]),
  (12, 1, false, .i2l, 0, 0, 0, []), (13, 1, false, .lastore, 0, 0, 0, []), (14, 3, false, .goto 11, 25, 0, 0, []), (17, 2, false, .astore 6, 6, 0, 0, []),
  (19, 1, false, .iconst 1, 1, 0, 0, []), (20, 1, false, .ireturn, 0, 0, 0, []), (21, 2, false, .astore 6, 6, 0, 0, []), (23, 1, false, .iconst 2, 2, 0, 0, []),
  (24, 1, false, .ireturn, 0, 0, 0, []), (25, 1, false, .iconst 0, 0, 0, 0, []), (26, 1, false, .ireturn, 0, 0, 0, [])]
def k_La_part : List El := [(0, 2, false, .aload 5, 5, 0, 0, []), (2, 1, false, .iconst 0, 0, 0, 0, []), (3, 1, false, .aload_n 0, 0, 0, 0, []), (4, 1, false, .iload_n 1, 1, 0, 0, []),
  (5, 1, false, .iload_n 2, 2, 0, 0, []), (6, 1, false, .iload_n 3, 3, 0, 0, []), (7, 2, false, .iload 4, 4, 0, 0, []), (9, 3, false, .invokevirtual 42, 12, 5, 1, [0, 10]),
  (12, 1, false, .i2l, 0, 0, 0, []), (13, 1, false, .lastore, 0, 0, 0, []), (14, 3, false, .goto 11, 25, 0, 0, []), (17, 2, false, .astore 6, 6, 0, 0, []),
  (19, 1, false, .iconst 1, 1, 0, 0, []), (20, 1, false, .ireturn, 0, 0, 0, []), (21, 2, false, .astore 6, 6, 0, 0, []), (23, 1, false, .iconst 2, 2, 0, 0, []),
  (24, 1, false, .ireturn, 0, 0, 0, []), (25, 1, false, .iconst 0, 0, 0, 0, []), (26, 1, false, .ireturn, 0, 0, 0, [])]
def k_La_account : List El := [(0, 2, false, .aload 4, 4, 0, 0, []), (2, 1, false, .iconst 0, 0, 0, 0, []), (3, 1, false, .aload_n 0, 0, 0, 0, []), (4, 1, false, .iload_n 1, 1, 0, 0, []),
  (5, 1, false, .iload_n 2, 2, 0, 0, []), (6, 1, false, .iload_n 3, 3, 0, 0, []), (7, 3, false, .invokevirtual 45, 13, 4, 1, [0, 10]), (10, 1, false, .i2l, 0, 0, 0, []),
  (11, 1, false, .lastore, 0, 0, 0, []), (12, 3, false, .goto 7, 19, 0, 0, []), (15, 2, false, .astore 5, 5, 0, 0, []), (17, 1, false, .iconst 1, 1, 0, 0, []),
  (18, 1, false, .ireturn, 0, 0, 0, []), (19, 1, false, .iconst 0, 0, 0, 0, []), (20, 1, false, .ireturn, 0, 0, 0, [])]
def k_La_farmer : List El := [(0, 2, false, .aload 4, 4, 0, 0, []), (2, 1, false, .iconst 0, 0, 0, 0, []), (3, 1, false, .aload_n 0, 0, 0, 0, []), (4, 1, false, .iload_n 1, 1, 0, 0, []),
  (5, 1, false, .iload_n 2, 2, 0, 0, []), (6, 1, false, .iload_n 3, 3, 0, 0, []), (7, 3, false, .invokevirtual 49, 14, 4, 1, [0, 10]), (10, 1, false, .i2l, 0, 0, 0, []),
  (11, 1, false, .lastore, 0, 0, 0, []), (12, 3, false, .goto 7, 19, 0, 0, []), (15, 2, false, .astore 5, 5, 0, 0, []), (17, 1, false, .iconst 1, 1, 0, 0, []),
  (18, 1, false, .ireturn, 0, 0, 0, []), (19, 1, false, .iconst 0, 0, 0, 0, []), (20, 1, false, .ireturn, 0, 0, 0, [])]
def k_La_after : List El := [(0, 2, false, .aload 4, 4, 0, 0, []), (2, 1, false, .iconst 0, 0, 0, 0, []), (3, 1, false, .aload_n 0, 0, 0, 0, []), (4, 1, false, .iload_n 1, 1, 0, 0, []),
  (5, 1, false, .iload_n 2, 2, 0, 0, []), (6, 1, false, .iload_n 3, 3, 0, 0, []), (7, 3, false, .invokevirtual 52, 15, 4, 1, [0, 10]), (10, 1, false, .i2l, 0, 0, 0, []),
  (11, 1, false, .lastore, 0, 0, 0, []), (12, 3, false, .goto 11, 23, 0, 0, []), (15, 2, false, .astore 5, 5, 0, 0, []), (17, 1, false, .iconst 1, 1, 0, 0, []),
  (18, 1, false, .ireturn, 0, 0, 0, []), (19, 2, false, .astore 5, 5, 0, 0, []), (21, 1, false, .iconst 2, 2, 0, 0, []), (22, 1, false, .ireturn, 0, 0, 0, []),
  (23, 1, false, .iconst 0, 0, 0, 0, []), (24, 1, false, .ireturn, 0, 0, 0, [])]
def k_La_worth : List El := [(0, 1, false, .aload_n 2, 2, 0, 0, []), (1, 1, false, .iconst 0, 0, 0, 0, []), (2, 1, false, .aload_n 0, 0, 0, 0, []), (3, 1, false, .iload_n 1, 1, 0, 0, []),
  (4, 3, false, .invokevirtual 55, 16, 2, 1, [0, 10]), (7, 1, false, .i2l, 0, 0, 0, []), (8, 1, false, .lastore, 0, 0, 0, []), (9, 3, false, .goto 6, 15, 0, 0, []),
  (12, 1, false, .astore_n 3, 3, 0, 0, []), (13, 1, false, .iconst 1, 1, 0, 0, []), (14, 1, false, .ireturn, 0, 0, 0, []), (15, 1, false, .iconst 0, 0, 0, 0, []),
  (16, 1, false, .ireturn, 0, 0, 0, [])]
def k_La_share : List El := [(0, 1, false, .aload_n 3, 3, 0, 0, []), (1, 1, false, .iconst 0, 0, 0, 0, []), (2, 1, false, .aload_n 0, 0, 0, 0, []), (3, 1, false, .iload_n 1, 1, 0, 0, []),
  (4, 1, false, .iload_n 2, 2, 0, 0, []), (5, 3, false, .invokevirtual 58, 17, 3, 1, [0, 10]), (8, 1, false, .lastore, 0, 0, 0, []), (9, 3, false, .goto 11, 20, 0, 0, []),
  (12, 2, false, .astore 4, 4, 0, 0, []), (14, 1, false, .iconst 1, 1, 0, 0, []), (15, 1, false, .ireturn, 0, 0, 0, []), (16, 2, false, .astore 4, 4, 0, 0, []),
  (18, 1, false, .iconst 2, 2, 0, 0, []), (19, 1, false, .ireturn, 0, 0, 0, []), (20, 1, false, .iconst 0, 0, 0, 0, []), (21, 1, false, .ireturn, 0, 0, 0, [])]
def k_La_bid : List El := [(0, 2, false, .aload 4, 4, 0, 0, []), (2, 1, false, .iconst 0, 0, 0, 0, []), (3, 1, false, .aload_n 0, 0, 0, 0, []), (4, 1, false, .iload_n 1, 1, 0, 0, []),
  (5, 1, false, .iload_n 2, 2, 0, 0, []), (6, 1, false, .iload_n 3, 3, 0, 0, []), (7, 3, false, .invokevirtual 62, 18, 4, 1, [0, 10]), (10, 1, false, .i2l, 0, 0, 0, []),
  (11, 1, false, .lastore, 0, 0, 0, []), (12, 3, false, .goto 7, 19, 0, 0, []), (15, 2, false, .astore 5, 5, 0, 0, []), (17, 1, false, .iconst 1, 1, 0, 0, []),
  (18, 1, false, .ireturn, 0, 0, 0, []), (19, 1, false, .iconst 0, 0, 0, 0, []), (20, 1, false, .ireturn, 0, 0, 0, [])]
def k_La_gets : List El := [(0, 1, false, .aload_n 3, 3, 0, 0, []), (1, 1, false, .iconst 0, 0, 0, 0, []), (2, 1, false, .aload_n 0, 0, 0, 0, []), (3, 1, false, .iload_n 1, 1, 0, 0, []),
  (4, 1, false, .iload_n 2, 2, 0, 0, []), (5, 3, false, .invokevirtual 65, 20, 3, 1, [0, 10]), (8, 1, false, .i2l, 0, 0, 0, []), (9, 1, false, .lastore, 0, 0, 0, []),
  (10, 3, false, .goto 11, 21, 0, 0, []), (13, 2, false, .astore 4, 4, 0, 0, []), (15, 1, false, .iconst 1, 1, 0, 0, []), (16, 1, false, .ireturn, 0, 0, 0, []),
  (17, 2, false, .astore 4, 4, 0, 0, []), (19, 1, false, .iconst 2, 2, 0, 0, []), (20, 1, false, .ireturn, 0, 0, 0, []), (21, 1, false, .iconst 0, 0, 0, 0, []),
  (22, 1, false, .ireturn, 0, 0, 0, [])]
def k_La_settled : List El := [(0, 1, false, .aload_n 3, 3, 0, 0, []), (1, 1, false, .iconst 0, 0, 0, 0, []), (2, 1, false, .aload_n 0, 0, 0, 0, []), (3, 1, false, .iload_n 1, 1, 0, 0, []),
  (4, 1, false, .iload_n 2, 2, 0, 0, []), (5, 3, false, .invokevirtual 68, 21, 3, 1, [0, 10]), (8, 1, false, .i2l, 0, 0, 0, []), (9, 1, false, .lastore, 0, 0, 0, []),
  (10, 3, false, .goto 7, 17, 0, 0, []), (13, 2, false, .astore 4, 4, 0, 0, []), (15, 1, false, .iconst 1, 1, 0, 0, []), (16, 1, false, .ireturn, 0, 0, 0, []),
  (17, 1, false, .iconst 0, 0, 0, 0, []), (18, 1, false, .ireturn, 0, 0, 0, [])]
def k_La_drought : List El := [(0, 1, false, .aload_n 3, 3, 0, 0, []), (1, 1, false, .iconst 0, 0, 0, 0, []), (2, 1, false, .aload_n 0, 0, 0, 0, []), (3, 1, false, .iload_n 1, 1, 0, 0, []),
  (4, 1, false, .iload_n 2, 2, 0, 0, []), (5, 3, false, .invokevirtual 71, 22, 3, 1, [0, 10]), (8, 1, false, .i2l, 0, 0, 0, []), (9, 1, false, .lastore, 0, 0, 0, []),
  (10, 3, false, .goto 11, 21, 0, 0, []), (13, 2, false, .astore 4, 4, 0, 0, []), (15, 1, false, .iconst 1, 1, 0, 0, []), (16, 1, false, .ireturn, 0, 0, 0, []),
  (17, 2, false, .astore 4, 4, 0, 0, []), (19, 1, false, .iconst 2, 2, 0, 0, []), (20, 1, false, .ireturn, 0, 0, 0, []), (21, 1, false, .iconst 0, 0, 0, 0, []),
  (22, 1, false, .ireturn, 0, 0, 0, [])]
def k_La_gauge : List El := [(0, 2, false, .aload 4, 4, 0, 0, []), (2, 1, false, .iconst 0, 0, 0, 0, []), (3, 1, false, .aload_n 0, 0, 0, 0, []), (4, 1, false, .iload_n 1, 1, 0, 0, []),
  (5, 1, false, .iload_n 2, 2, 0, 0, []), (6, 1, false, .iload_n 3, 3, 0, 0, []), (7, 3, false, .invokevirtual 74, 23, 4, 1, [0, 10]), (10, 1, false, .i2l, 0, 0, 0, []),
  (11, 1, false, .lastore, 0, 0, 0, []), (12, 3, false, .goto 7, 19, 0, 0, []), (15, 2, false, .astore 5, 5, 0, 0, []), (17, 1, false, .iconst 1, 1, 0, 0, []),
  (18, 1, false, .ireturn, 0, 0, 0, []), (19, 1, false, .iconst 0, 0, 0, 0, []), (20, 1, false, .ireturn, 0, 0, 0, [])]
def k_La_explain : List El := [(0, 1, false, .aload_n 2, 2, 0, 0, []), (1, 1, false, .iconst 0, 0, 0, 0, []), (2, 1, false, .aload_n 0, 0, 0, 0, []), (3, 1, false, .iload_n 1, 1, 0, 0, []),
  (4, 3, false, .invokevirtual 77, 25, 2, 1, [0, 10]), (7, 1, false, .i2l, 0, 0, 0, []), (8, 1, false, .lastore, 0, 0, 0, []), (9, 3, false, .goto 6, 15, 0, 0, []),
  (12, 1, false, .astore_n 3, 3, 0, 0, []), (13, 1, false, .iconst 1, 1, 0, 0, []), (14, 1, false, .ireturn, 0, 0, 0, []), (15, 1, false, .iconst 0, 0, 0, 0, []),
  (16, 1, false, .ireturn, 0, 0, 0, [])]
def k_La_doubt : List El := [(0, 1, false, .aload_n 3, 3, 0, 0, []), (1, 1, false, .iconst 0, 0, 0, 0, []), (2, 1, false, .aload_n 0, 0, 0, 0, []), (3, 1, false, .iload_n 1, 1, 0, 0, []),
  (4, 1, false, .iload_n 2, 2, 0, 0, []), (5, 3, false, .invokevirtual 80, 26, 3, 1, [0, 10]), (8, 1, false, .lastore, 0, 0, 0, []), (9, 3, false, .goto 11, 20, 0, 0, []),
  (12, 2, false, .astore 4, 4, 0, 0, []), (14, 1, false, .iconst 1, 1, 0, 0, []), (15, 1, false, .ireturn, 0, 0, 0, []), (16, 2, false, .astore 4, 4, 0, 0, []),
  (18, 1, false, .iconst 2, 2, 0, 0, []), (19, 1, false, .ireturn, 0, 0, 0, []), (20, 1, false, .iconst 0, 0, 0, 0, []), (21, 1, false, .ireturn, 0, 0, 0, [])]
def k_La_worst : List El := [(0, 1, false, .aload_n 3, 3, 0, 0, []), (1, 1, false, .iconst 0, 0, 0, 0, []), (2, 1, false, .aload_n 0, 0, 0, 0, []), (3, 1, false, .iload_n 1, 1, 0, 0, []),
  (4, 1, false, .iload_n 2, 2, 0, 0, []), (5, 3, false, .invokevirtual 83, 27, 3, 1, [0, 10]), (8, 1, false, .i2l, 0, 0, 0, []), (9, 1, false, .lastore, 0, 0, 0, []),
  (10, 3, false, .goto 11, 21, 0, 0, []), (13, 2, false, .astore 4, 4, 0, 0, []), (15, 1, false, .iconst 1, 1, 0, 0, []), (16, 1, false, .ireturn, 0, 0, 0, []),
  (17, 2, false, .astore 4, 4, 0, 0, []), (19, 1, false, .iconst 2, 2, 0, 0, []), (20, 1, false, .ireturn, 0, 0, 0, []), (21, 1, false, .iconst 0, 0, 0, 0, []),
  (22, 1, false, .ireturn, 0, 0, 0, [])]
def k_La_law : List El := [(0, 3, false, .new 8, 10, 12, 0, []), (3, 1, false, .dup, 0, 0, 0, []), (4, 3, false, .invokespecial 86, 0, 1, 1, [0]), (7, 1, false, .astore_n 1, 1, 0, 0, []),
  (8, 3, false, .new 87, 11, 61, 0, []), (11, 1, false, .dup, 0, 0, 0, []), (12, 3, false, .invokespecial 89, 42, 1, 1, [0]), (15, 1, false, .astore_n 2, 2, 0, 0, []),
  (16, 1, false, .iconst 1, 1, 0, 0, []), (17, 2, false, .newarray .long, 14, 0, 0, []), (19, 1, false, .astore_n 3, 3, 0, 0, []), (20, 1, false, .iconst 0, 0, 0, 0, []),
  (21, 2, false, .istore 4, 4, 0, 0, []), (23, 2, true, .iload 4, 4, 0, 0, []), (25, 1, false, .aload_n 0, 0, 0, 0, []), (26, 1, false, .arraylength, 0, 0, 0, []),
  (27, 2, false, .bipush 6, 6, 0, 0, []), (29, 1, false, .isub, 0, 0, 0, []), (30, 3, false, .if_icmp .gt 1894, 1924, 0, 0, []), (33, 1, false, .aload_n 0, 0, 0, 0, []),
  (34, 2, false, .iload 4, 4, 0, 0, []), (36, 1, false, .iaload, 0, 0, 0, []), (37, 2, false, .bipush 31, 31, 0, 0, []), (39, 1, false, .iand, 0, 0, 0, []),
  (40, 136, false, .tableswitch 1878 0 29 #[136, 209, 265, 278, 334, 390, 458, 526, 618, 631, 699, 791, 883, 963, 1043, 1123, 1179, 1246, 1326, 1339, 1407, 1475, 1543, 1623, 1636, 1692, 1759, 1827, 1840, 1853], 1918, 0, 0, [176, 249, 305, 318, 374, 430, 498, 566, 658, 671, 739, 831, 923, 1003, 1083, 1163, 1219, 1286, 1366, 1379, 1447, 1515, 1583, 1663, 1676, 1732, 1799, 1867, 1880, 1893]), (176, 1, false, .aload_n 1, 1, 0, 0, []), (177, 1, false, .aload_n 0, 0, 0, 0, []), (178, 2, false, .iload 4, 4, 0, 0, []),
  (180, 1, false, .iconst 1, 1, 0, 0, []), (181, 1, false, .iadd, 0, 0, 0, []), (182, 1, false, .iaload, 0, 0, 0, []), (183, 1, false, .aload_n 0, 0, 0, 0, []),
  (184, 2, false, .iload 4, 4, 0, 0, []), (186, 1, false, .iconst 2, 2, 0, 0, []), (187, 1, false, .iadd, 0, 0, 0, []), (188, 1, false, .iaload, 0, 0, 0, []),
  (189, 1, false, .aload_n 0, 0, 0, 0, []), (190, 2, false, .iload 4, 4, 0, 0, []), (192, 1, false, .iconst 3, 3, 0, 0, []), (193, 1, false, .iadd, 0, 0, 0, []),
  (194, 1, false, .iaload, 0, 0, 0, []), (195, 1, false, .aload_n 0, 0, 0, 0, []), (196, 2, false, .iload 4, 4, 0, 0, []), (198, 1, false, .iconst 4, 4, 0, 0, []),
  (199, 1, false, .iadd, 0, 0, 0, []), (200, 1, false, .iaload, 0, 0, 0, []), (201, 1, false, .aload_n 0, 0, 0, 0, []), (202, 2, false, .iload 4, 4, 0, 0, []),
  (204, 1, false, .iconst 5, 5, 0, 0, []), (205, 1, false, .iadd, 0, 0, 0, []), (206, 1, false, .iaload, 0, 0, 0, []), (207, 3, false, .invokevirtual 90, 1, 6, 0, [0, 10]),
  (210, 1, false, .aload_n 2, 2, 0, 0, []), (211, 1, false, .aload_n 0, 0, 0, 0, []), (212, 2, false, .iload 4, 4, 0, 0, []), (214, 1, false, .iconst 1, 1, 0, 0, []),
  (215, 1, false, .iadd, 0, 0, 0, []), (216, 1, false, .iaload, 0, 0, 0, []), (217, 1, false, .aload_n 0, 0, 0, 0, []), (218, 2, false, .iload 4, 4, 0, 0, []),
  (220, 1, false, .iconst 2, 2, 0, 0, []), (221, 1, false, .iadd, 0, 0, 0, []), (222, 1, false, .iaload, 0, 0, 0, []), (223, 1, false, .aload_n 0, 0, 0, 0, []),
  (224, 2, false, .iload 4, 4, 0, 0, []), (226, 1, false, .iconst 3, 3, 0, 0, []), (227, 1, false, .iadd, 0, 0, 0, []), (228, 1, false, .iaload, 0, 0, 0, []),
  (229, 1, false, .aload_n 0, 0, 0, 0, []), (230, 2, false, .iload 4, 4, 0, 0, []), (232, 1, false, .iconst 4, 4, 0, 0, []), (233, 1, false, .iadd, 0, 0, 0, []),
  (234, 1, false, .iaload, 0, 0, 0, []), (235, 1, false, .aload_n 0, 0, 0, 0, []), (236, 2, false, .iload 4, 4, 0, 0, []), (238, 1, false, .iconst 5, 5, 0, 0, []),
  (239, 1, false, .iadd, 0, 0, 0, []), (240, 1, false, .iaload, 0, 0, 0, []), (241, 3, false, .invokevirtual 94, 47, 6, 0, [0, 11]), (244, 3, false, .if_icmp .eq 1674, 1918, 0, 0, []),
  (247, 1, false, .iconst 0, 0, 0, 0, []), (248, 1, false, .ireturn, 0, 0, 1, []), (249, 1, false, .aload_n 1, 1, 0, 0, []), (250, 1, false, .aload_n 0, 0, 0, 0, []),
  (251, 2, false, .iload 4, 4, 0, 0, []), (253, 1, false, .iconst 1, 1, 0, 0, []), (254, 1, false, .iadd, 0, 0, 0, []), (255, 1, false, .iaload, 0, 0, 0, []),
  (256, 1, false, .aload_n 3, 3, 0, 0, []), (257, 3, false, .invokestatic 95, 253, 3, 1, [0]), (260, 2, false, .istore 5, 5, 0, 0, []), (262, 1, false, .aload_n 2, 2, 0, 0, []),
  (263, 1, false, .aload_n 0, 0, 0, 0, []), (264, 2, false, .iload 4, 4, 0, 0, []), (266, 1, false, .iconst 1, 1, 0, 0, []), (267, 1, false, .iadd, 0, 0, 0, []),
  (268, 1, false, .iaload, 0, 0, 0, []), (269, 3, false, .invokevirtual 100, 64, 2, 0, [0, 11]), (272, 2, false, .istore 6, 6, 0, 0, []), (274, 1, false, .aload_n 2, 2, 0, 0, []),
  (275, 3, false, .invokevirtual 101, 44, 1, 0, [0, 11]), (278, 2, false, .iload 5, 5, 0, 0, []), (280, 3, false, .if_icmp .eq 5, 285, 0, 0, []), (283, 1, false, .iconst 0, 0, 0, 0, []),
  (284, 1, false, .ireturn, 0, 0, 1, []), (285, 2, false, .iload 5, 5, 0, 0, []), (287, 3, false, .ifCond .ne 15, 302, 0, 0, []), (290, 1, false, .aload_n 3, 3, 0, 0, []),
  (291, 1, false, .iconst 0, 0, 0, 0, []), (292, 1, false, .laload, 0, 0, 0, []), (293, 2, false, .iload 6, 6, 0, 0, []), (295, 1, false, .i2l, 0, 0, 0, []),
  (296, 1, false, .lcmp, 0, 0, 0, []), (297, 3, false, .ifCond .eq 5, 302, 0, 0, []), (300, 1, false, .iconst 0, 0, 0, 0, []), (301, 1, false, .ireturn, 0, 0, 1, []),
  (302, 3, false, .goto 1616, 1918, 0, 0, []), (305, 1, false, .aload_n 1, 1, 0, 0, []), (306, 3, false, .invokevirtual 105, 3, 1, 0, [0, 10]), (309, 1, false, .aload_n 2, 2, 0, 0, []),
  (310, 3, false, .invokevirtual 108, 65, 1, 0, [0, 11]), (313, 3, false, .if_icmp .eq 1605, 1918, 0, 0, []), (316, 1, false, .iconst 0, 0, 0, 0, []), (317, 1, false, .ireturn, 0, 0, 1, []),
  (318, 1, false, .aload_n 1, 1, 0, 0, []), (319, 1, false, .aload_n 0, 0, 0, 0, []), (320, 2, false, .iload 4, 4, 0, 0, []), (322, 1, false, .iconst 1, 1, 0, 0, []),
  (323, 1, false, .iadd, 0, 0, 0, []), (324, 1, false, .iaload, 0, 0, 0, []), (325, 1, false, .aload_n 3, 3, 0, 0, []), (326, 3, false, .invokestatic 109, 254, 3, 1, [0]),
  (329, 2, false, .istore 5, 5, 0, 0, []), (331, 1, false, .aload_n 2, 2, 0, 0, []), (332, 1, false, .aload_n 0, 0, 0, 0, []), (333, 2, false, .iload 4, 4, 0, 0, []),
  (335, 1, false, .iconst 1, 1, 0, 0, []), (336, 1, false, .iadd, 0, 0, 0, []), (337, 1, false, .iaload, 0, 0, 0, []), (338, 3, false, .invokevirtual 111, 66, 2, 0, [0, 11]),
  (341, 2, false, .istore 6, 6, 0, 0, []), (343, 1, false, .aload_n 2, 2, 0, 0, []), (344, 3, false, .invokevirtual 101, 44, 1, 0, [0, 11]), (347, 2, false, .iload 5, 5, 0, 0, []),
  (349, 3, false, .if_icmp .eq 5, 354, 0, 0, []), (352, 1, false, .iconst 0, 0, 0, 0, []), (353, 1, false, .ireturn, 0, 0, 1, []), (354, 2, false, .iload 5, 5, 0, 0, []),
  (356, 3, false, .ifCond .ne 15, 371, 0, 0, []), (359, 1, false, .aload_n 3, 3, 0, 0, []), (360, 1, false, .iconst 0, 0, 0, 0, []), (361, 1, false, .laload, 0, 0, 0, []),
  (362, 2, false, .iload 6, 6, 0, 0, []), (364, 1, false, .i2l, 0, 0, 0, []), (365, 1, false, .lcmp, 0, 0, 0, []), (366, 3, false, .ifCond .eq 5, 371, 0, 0, []),
  (369, 1, false, .iconst 0, 0, 0, 0, []), (370, 1, false, .ireturn, 0, 0, 1, []), (371, 3, false, .goto 1547, 1918, 0, 0, []), (374, 1, false, .aload_n 1, 1, 0, 0, []),
  (375, 1, false, .aload_n 0, 0, 0, 0, []), (376, 2, false, .iload 4, 4, 0, 0, []), (378, 1, false, .iconst 1, 1, 0, 0, []), (379, 1, false, .iadd, 0, 0, 0, []),
  (380, 1, false, .iaload, 0, 0, 0, []), (381, 1, false, .aload_n 3, 3, 0, 0, []), (382, 3, false, .invokestatic 112, 255, 3, 1, [0]), (385, 2, false, .istore 5, 5, 0, 0, []),
  (387, 1, false, .aload_n 2, 2, 0, 0, []), (388, 1, false, .aload_n 0, 0, 0, 0, []), (389, 2, false, .iload 4, 4, 0, 0, []), (391, 1, false, .iconst 1, 1, 0, 0, []),
  (392, 1, false, .iadd, 0, 0, 0, []), (393, 1, false, .iaload, 0, 0, 0, []), (394, 3, false, .invokevirtual 114, 68, 2, 0, [0, 11]), (397, 2, false, .istore 6, 6, 0, 0, []),
  (399, 1, false, .aload_n 2, 2, 0, 0, []), (400, 3, false, .invokevirtual 101, 44, 1, 0, [0, 11]), (403, 2, false, .iload 5, 5, 0, 0, []), (405, 3, false, .if_icmp .eq 5, 410, 0, 0, []),
  (408, 1, false, .iconst 0, 0, 0, 0, []), (409, 1, false, .ireturn, 0, 0, 1, []), (410, 2, false, .iload 5, 5, 0, 0, []), (412, 3, false, .ifCond .ne 15, 427, 0, 0, []),
  (415, 1, false, .aload_n 3, 3, 0, 0, []), (416, 1, false, .iconst 0, 0, 0, 0, []), (417, 1, false, .laload, 0, 0, 0, []), (418, 2, false, .iload 6, 6, 0, 0, []),
  (420, 1, false, .i2l, 0, 0, 0, []), (421, 1, false, .lcmp, 0, 0, 0, []), (422, 3, false, .ifCond .eq 5, 427, 0, 0, []), (425, 1, false, .iconst 0, 0, 0, 0, []),
  (426, 1, false, .ireturn, 0, 0, 1, []), (427, 3, false, .goto 1491, 1918, 0, 0, []), (430, 1, false, .aload_n 1, 1, 0, 0, []), (431, 1, false, .aload_n 0, 0, 0, 0, []),
  (432, 2, false, .iload 4, 4, 0, 0, []), (434, 1, false, .iconst 1, 1, 0, 0, []), (435, 1, false, .iadd, 0, 0, 0, []), (436, 1, false, .iaload, 0, 0, 0, []),
  (437, 1, false, .aload_n 0, 0, 0, 0, []), (438, 2, false, .iload 4, 4, 0, 0, []), (440, 1, false, .iconst 2, 2, 0, 0, []), (441, 1, false, .iadd, 0, 0, 0, []),
  (442, 1, false, .iaload, 0, 0, 0, []), (443, 1, false, .aload_n 3, 3, 0, 0, []), (444, 3, false, .invokestatic 115, 256, 4, 1, [0]), (447, 2, false, .istore 5, 5, 0, 0, []),
  (449, 1, false, .aload_n 2, 2, 0, 0, []), (450, 1, false, .aload_n 0, 0, 0, 0, []), (451, 2, false, .iload 4, 4, 0, 0, []), (453, 1, false, .iconst 1, 1, 0, 0, []),
  (454, 1, false, .iadd, 0, 0, 0, []), (455, 1, false, .iaload, 0, 0, 0, []), (456, 1, false, .aload_n 0, 0, 0, 0, []), (457, 2, false, .iload 4, 4, 0, 0, []),
  (459, 1, false, .iconst 2, 2, 0, 0, []), (460, 1, false, .iadd, 0, 0, 0, []), (461, 1, false, .iaload, 0, 0, 0, []), (462, 3, false, .invokevirtual 118, 74, 3, 0, [0, 11]),
  (465, 2, false, .istore 6, 6, 0, 0, []), (467, 1, false, .aload_n 2, 2, 0, 0, []), (468, 3, false, .invokevirtual 101, 44, 1, 0, [0, 11]), (471, 2, false, .iload 5, 5, 0, 0, []),
  (473, 3, false, .if_icmp .eq 5, 478, 0, 0, []), (476, 1, false, .iconst 0, 0, 0, 0, []), (477, 1, false, .ireturn, 0, 0, 1, []), (478, 2, false, .iload 5, 5, 0, 0, []),
  (480, 3, false, .ifCond .ne 15, 495, 0, 0, []), (483, 1, false, .aload_n 3, 3, 0, 0, []), (484, 1, false, .iconst 0, 0, 0, 0, []), (485, 1, false, .laload, 0, 0, 0, []),
  (486, 2, false, .iload 6, 6, 0, 0, []), (488, 1, false, .i2l, 0, 0, 0, []), (489, 1, false, .lcmp, 0, 0, 0, []), (490, 3, false, .ifCond .eq 5, 495, 0, 0, []),
  (493, 1, false, .iconst 0, 0, 0, 0, []), (494, 1, false, .ireturn, 0, 0, 1, []), (495, 3, false, .goto 1423, 1918, 0, 0, []), (498, 1, false, .aload_n 1, 1, 0, 0, []),
  (499, 1, false, .aload_n 0, 0, 0, 0, []), (500, 2, false, .iload 4, 4, 0, 0, []), (502, 1, false, .iconst 1, 1, 0, 0, []), (503, 1, false, .iadd, 0, 0, 0, []),
  (504, 1, false, .iaload, 0, 0, 0, []), (505, 1, false, .aload_n 0, 0, 0, 0, []), (506, 2, false, .iload 4, 4, 0, 0, []), (508, 1, false, .iconst 2, 2, 0, 0, []),
  (509, 1, false, .iadd, 0, 0, 0, []), (510, 1, false, .iaload, 0, 0, 0, []), (511, 1, false, .aload_n 3, 3, 0, 0, []), (512, 3, false, .invokestatic 119, 257, 4, 1, [0]),
  (515, 2, false, .istore 5, 5, 0, 0, []), (517, 1, false, .aload_n 2, 2, 0, 0, []), (518, 1, false, .aload_n 0, 0, 0, 0, []), (519, 2, false, .iload 4, 4, 0, 0, []),
  (521, 1, false, .iconst 1, 1, 0, 0, []), (522, 1, false, .iadd, 0, 0, 0, []), (523, 1, false, .iaload, 0, 0, 0, []), (524, 1, false, .aload_n 0, 0, 0, 0, []),
  (525, 2, false, .iload 4, 4, 0, 0, []), (527, 1, false, .iconst 2, 2, 0, 0, []), (528, 1, false, .iadd, 0, 0, 0, []), (529, 1, false, .iaload, 0, 0, 0, []),
  (530, 3, false, .invokevirtual 121, 76, 3, 0, [0, 11]), (533, 2, false, .istore 6, 6, 0, 0, []), (535, 1, false, .aload_n 2, 2, 0, 0, []), (536, 3, false, .invokevirtual 101, 44, 1, 0, [0, 11]),
  (539, 2, false, .iload 5, 5, 0, 0, []), (541, 3, false, .if_icmp .eq 5, 546, 0, 0, []), (544, 1, false, .iconst 0, 0, 0, 0, []), (545, 1, false, .ireturn, 0, 0, 1, []),
  (546, 2, false, .iload 5, 5, 0, 0, []), (548, 3, false, .ifCond .ne 15, 563, 0, 0, []), (551, 1, false, .aload_n 3, 3, 0, 0, []), (552, 1, false, .iconst 0, 0, 0, 0, []),
  (553, 1, false, .laload, 0, 0, 0, []), (554, 2, false, .iload 6, 6, 0, 0, []), (556, 1, false, .i2l, 0, 0, 0, []), (557, 1, false, .lcmp, 0, 0, 0, []),
  (558, 3, false, .ifCond .eq 5, 563, 0, 0, []), (561, 1, false, .iconst 0, 0, 0, 0, []), (562, 1, false, .ireturn, 0, 0, 1, []), (563, 3, false, .goto 1355, 1918, 0, 0, []),
  (566, 1, false, .aload_n 1, 1, 0, 0, []), (567, 1, false, .aload_n 0, 0, 0, 0, []), (568, 2, false, .iload 4, 4, 0, 0, []), (570, 1, false, .iconst 1, 1, 0, 0, []),
  (571, 1, false, .iadd, 0, 0, 0, []), (572, 1, false, .iaload, 0, 0, 0, []), (573, 1, false, .aload_n 0, 0, 0, 0, []), (574, 2, false, .iload 4, 4, 0, 0, []),
  (576, 1, false, .iconst 2, 2, 0, 0, []), (577, 1, false, .iadd, 0, 0, 0, []), (578, 1, false, .iaload, 0, 0, 0, []), (579, 1, false, .aload_n 0, 0, 0, 0, []),
  (580, 2, false, .iload 4, 4, 0, 0, []), (582, 1, false, .iconst 3, 3, 0, 0, []), (583, 1, false, .iadd, 0, 0, 0, []), (584, 1, false, .iaload, 0, 0, 0, []),
  (585, 1, false, .aload_n 0, 0, 0, 0, []), (586, 2, false, .iload 4, 4, 0, 0, []), (588, 1, false, .iconst 4, 4, 0, 0, []), (589, 1, false, .iadd, 0, 0, 0, []),
  (590, 1, false, .iaload, 0, 0, 0, []), (591, 1, false, .aload_n 3, 3, 0, 0, []), (592, 3, false, .invokestatic 122, 258, 6, 1, [0]), (595, 2, false, .istore 5, 5, 0, 0, []),
  (597, 1, false, .aload_n 2, 2, 0, 0, []), (598, 1, false, .aload_n 0, 0, 0, 0, []), (599, 2, false, .iload 4, 4, 0, 0, []), (601, 1, false, .iconst 1, 1, 0, 0, []),
  (602, 1, false, .iadd, 0, 0, 0, []), (603, 1, false, .iaload, 0, 0, 0, []), (604, 1, false, .aload_n 0, 0, 0, 0, []), (605, 2, false, .iload 4, 4, 0, 0, []),
  (607, 1, false, .iconst 2, 2, 0, 0, []), (608, 1, false, .iadd, 0, 0, 0, []), (609, 1, false, .iaload, 0, 0, 0, []), (610, 1, false, .aload_n 0, 0, 0, 0, []),
  (611, 2, false, .iload 4, 4, 0, 0, []), (613, 1, false, .iconst 3, 3, 0, 0, []), (614, 1, false, .iadd, 0, 0, 0, []), (615, 1, false, .iaload, 0, 0, 0, []),
  (616, 1, false, .aload_n 0, 0, 0, 0, []), (617, 2, false, .iload 4, 4, 0, 0, []), (619, 1, false, .iconst 4, 4, 0, 0, []), (620, 1, false, .iadd, 0, 0, 0, []),
  (621, 1, false, .iaload, 0, 0, 0, []), (622, 3, false, .invokevirtual 125, 77, 5, 0, [0, 11]), (625, 2, false, .istore 6, 6, 0, 0, []), (627, 1, false, .aload_n 2, 2, 0, 0, []),
  (628, 3, false, .invokevirtual 101, 44, 1, 0, [0, 11]), (631, 2, false, .iload 5, 5, 0, 0, []), (633, 3, false, .if_icmp .eq 5, 638, 0, 0, []), (636, 1, false, .iconst 0, 0, 0, 0, []),
  (637, 1, false, .ireturn, 0, 0, 1, []), (638, 2, false, .iload 5, 5, 0, 0, []), (640, 3, false, .ifCond .ne 15, 655, 0, 0, []), (643, 1, false, .aload_n 3, 3, 0, 0, []),
  (644, 1, false, .iconst 0, 0, 0, 0, []), (645, 1, false, .laload, 0, 0, 0, []), (646, 2, false, .iload 6, 6, 0, 0, []), (648, 1, false, .i2l, 0, 0, 0, []),
  (649, 1, false, .lcmp, 0, 0, 0, []), (650, 3, false, .ifCond .eq 5, 655, 0, 0, []), (653, 1, false, .iconst 0, 0, 0, 0, []), (654, 1, false, .ireturn, 0, 0, 1, []),
  (655, 3, false, .goto 1263, 1918, 0, 0, []), (658, 1, false, .aload_n 1, 1, 0, 0, []), (659, 3, false, .invokevirtual 126, 9, 1, 0, [0, 10]), (662, 1, false, .aload_n 2, 2, 0, 0, []),
  (663, 3, false, .invokevirtual 129, 78, 1, 0, [0, 11]), (666, 3, false, .if_icmp .eq 1252, 1918, 0, 0, []), (669, 1, false, .iconst 0, 0, 0, 0, []), (670, 1, false, .ireturn, 0, 0, 1, []),
  (671, 1, false, .aload_n 1, 1, 0, 0, []), (672, 1, false, .aload_n 0, 0, 0, 0, []), (673, 2, false, .iload 4, 4, 0, 0, []), (675, 1, false, .iconst 1, 1, 0, 0, []),
  (676, 1, false, .iadd, 0, 0, 0, []), (677, 1, false, .iaload, 0, 0, 0, []), (678, 1, false, .aload_n 0, 0, 0, 0, []), (679, 2, false, .iload 4, 4, 0, 0, []),
  (681, 1, false, .iconst 2, 2, 0, 0, []), (682, 1, false, .iadd, 0, 0, 0, []), (683, 1, false, .iaload, 0, 0, 0, []), (684, 1, false, .aload_n 3, 3, 0, 0, []),
  (685, 3, false, .invokestatic 130, 259, 4, 1, [0]), (688, 2, false, .istore 5, 5, 0, 0, []), (690, 1, false, .aload_n 2, 2, 0, 0, []), (691, 1, false, .aload_n 0, 0, 0, 0, []),
  (692, 2, false, .iload 4, 4, 0, 0, []), (694, 1, false, .iconst 1, 1, 0, 0, []), (695, 1, false, .iadd, 0, 0, 0, []), (696, 1, false, .iaload, 0, 0, 0, []),
  (697, 1, false, .aload_n 0, 0, 0, 0, []), (698, 2, false, .iload 4, 4, 0, 0, []), (700, 1, false, .iconst 2, 2, 0, 0, []), (701, 1, false, .iadd, 0, 0, 0, []),
  (702, 1, false, .iaload, 0, 0, 0, []), (703, 3, false, .invokevirtual 132, 95, 3, 1, [0, 11]), (706, 2, false, .istore 6, 6, 0, 0, []), (708, 1, false, .aload_n 2, 2, 0, 0, []),
  (709, 3, false, .invokevirtual 101, 44, 1, 0, [0, 11]), (712, 2, false, .iload 5, 5, 0, 0, []), (714, 3, false, .if_icmp .eq 5, 719, 0, 0, []), (717, 1, false, .iconst 0, 0, 0, 0, []),
  (718, 1, false, .ireturn, 0, 0, 1, []), (719, 2, false, .iload 5, 5, 0, 0, []), (721, 3, false, .ifCond .ne 15, 736, 0, 0, []), (724, 1, false, .aload_n 3, 3, 0, 0, []),
  (725, 1, false, .iconst 0, 0, 0, 0, []), (726, 1, false, .laload, 0, 0, 0, []), (727, 2, false, .iload 6, 6, 0, 0, []), (729, 1, false, .i2l, 0, 0, 0, []),
  (730, 1, false, .lcmp, 0, 0, 0, []), (731, 3, false, .ifCond .eq 5, 736, 0, 0, []), (734, 1, false, .iconst 0, 0, 0, 0, []), (735, 1, false, .ireturn, 0, 0, 1, []),
  (736, 3, false, .goto 1182, 1918, 0, 0, []), (739, 1, false, .aload_n 1, 1, 0, 0, []), (740, 1, false, .aload_n 0, 0, 0, 0, []), (741, 2, false, .iload 4, 4, 0, 0, []),
  (743, 1, false, .iconst 1, 1, 0, 0, []), (744, 1, false, .iadd, 0, 0, 0, []), (745, 1, false, .iaload, 0, 0, 0, []), (746, 1, false, .aload_n 0, 0, 0, 0, []),
  (747, 2, false, .iload 4, 4, 0, 0, []), (749, 1, false, .iconst 2, 2, 0, 0, []), (750, 1, false, .iadd, 0, 0, 0, []), (751, 1, false, .iaload, 0, 0, 0, []),
  (752, 1, false, .aload_n 0, 0, 0, 0, []), (753, 2, false, .iload 4, 4, 0, 0, []), (755, 1, false, .iconst 3, 3, 0, 0, []), (756, 1, false, .iadd, 0, 0, 0, []),
  (757, 1, false, .iaload, 0, 0, 0, []), (758, 1, false, .aload_n 0, 0, 0, 0, []), (759, 2, false, .iload 4, 4, 0, 0, []), (761, 1, false, .iconst 4, 4, 0, 0, []),
  (762, 1, false, .iadd, 0, 0, 0, []), (763, 1, false, .iaload, 0, 0, 0, []), (764, 1, false, .aload_n 3, 3, 0, 0, []), (765, 3, false, .invokestatic 133, 260, 6, 1, [0]),
  (768, 2, false, .istore 5, 5, 0, 0, []), (770, 1, false, .aload_n 2, 2, 0, 0, []), (771, 1, false, .aload_n 0, 0, 0, 0, []), (772, 2, false, .iload 4, 4, 0, 0, []),
  (774, 1, false, .iconst 1, 1, 0, 0, []), (775, 1, false, .iadd, 0, 0, 0, []), (776, 1, false, .iaload, 0, 0, 0, []), (777, 1, false, .aload_n 0, 0, 0, 0, []),
  (778, 2, false, .iload 4, 4, 0, 0, []), (780, 1, false, .iconst 2, 2, 0, 0, []), (781, 1, false, .iadd, 0, 0, 0, []), (782, 1, false, .iaload, 0, 0, 0, []),
  (783, 1, false, .aload_n 0, 0, 0, 0, []), (784, 2, false, .iload 4, 4, 0, 0, []), (786, 1, false, .iconst 3, 3, 0, 0, []), (787, 1, false, .iadd, 0, 0, 0, []),
  (788, 1, false, .iaload, 0, 0, 0, []), (789, 1, false, .aload_n 0, 0, 0, 0, []), (790, 2, false, .iload 4, 4, 0, 0, []), (792, 1, false, .iconst 4, 4, 0, 0, []),
  (793, 1, false, .iadd, 0, 0, 0, []), (794, 1, false, .iaload, 0, 0, 0, []), (795, 3, false, .invokevirtual 135, 96, 5, 1, [0, 11]), (798, 2, false, .istore 6, 6, 0, 0, []),
  (800, 1, false, .aload_n 2, 2, 0, 0, []), (801, 3, false, .invokevirtual 101, 44, 1, 0, [0, 11]), (804, 2, false, .iload 5, 5, 0, 0, []), (806, 3, false, .if_icmp .eq 5, 811, 0, 0, []),
  (809, 1, false, .iconst 0, 0, 0, 0, []), (810, 1, false, .ireturn, 0, 0, 1, []), (811, 2, false, .iload 5, 5, 0, 0, []), (813, 3, false, .ifCond .ne 15, 828, 0, 0, []),
  (816, 1, false, .aload_n 3, 3, 0, 0, []), (817, 1, false, .iconst 0, 0, 0, 0, []), (818, 1, false, .laload, 0, 0, 0, []), (819, 2, false, .iload 6, 6, 0, 0, []),
  (821, 1, false, .i2l, 0, 0, 0, []), (822, 1, false, .lcmp, 0, 0, 0, []), (823, 3, false, .ifCond .eq 5, 828, 0, 0, []), (826, 1, false, .iconst 0, 0, 0, 0, []),
  (827, 1, false, .ireturn, 0, 0, 1, []), (828, 3, false, .goto 1090, 1918, 0, 0, []), (831, 1, false, .aload_n 1, 1, 0, 0, []), (832, 1, false, .aload_n 0, 0, 0, 0, []),
  (833, 2, false, .iload 4, 4, 0, 0, []), (835, 1, false, .iconst 1, 1, 0, 0, []), (836, 1, false, .iadd, 0, 0, 0, []), (837, 1, false, .iaload, 0, 0, 0, []),
  (838, 1, false, .aload_n 0, 0, 0, 0, []), (839, 2, false, .iload 4, 4, 0, 0, []), (841, 1, false, .iconst 2, 2, 0, 0, []), (842, 1, false, .iadd, 0, 0, 0, []),
  (843, 1, false, .iaload, 0, 0, 0, []), (844, 1, false, .aload_n 0, 0, 0, 0, []), (845, 2, false, .iload 4, 4, 0, 0, []), (847, 1, false, .iconst 3, 3, 0, 0, []),
  (848, 1, false, .iadd, 0, 0, 0, []), (849, 1, false, .iaload, 0, 0, 0, []), (850, 1, false, .aload_n 0, 0, 0, 0, []), (851, 2, false, .iload 4, 4, 0, 0, []),
  (853, 1, false, .iconst 4, 4, 0, 0, []), (854, 1, false, .iadd, 0, 0, 0, []), (855, 1, false, .iaload, 0, 0, 0, []), (856, 1, false, .aload_n 3, 3, 0, 0, []),
  (857, 3, false, .invokestatic 136, 261, 6, 1, [0]), (860, 2, false, .istore 5, 5, 0, 0, []), (862, 1, false, .aload_n 2, 2, 0, 0, []), (863, 1, false, .aload_n 0, 0, 0, 0, []),
  (864, 2, false, .iload 4, 4, 0, 0, []), (866, 1, false, .iconst 1, 1, 0, 0, []), (867, 1, false, .iadd, 0, 0, 0, []), (868, 1, false, .iaload, 0, 0, 0, []),
  (869, 1, false, .aload_n 0, 0, 0, 0, []), (870, 2, false, .iload 4, 4, 0, 0, []), (872, 1, false, .iconst 2, 2, 0, 0, []), (873, 1, false, .iadd, 0, 0, 0, []),
  (874, 1, false, .iaload, 0, 0, 0, []), (875, 1, false, .aload_n 0, 0, 0, 0, []), (876, 2, false, .iload 4, 4, 0, 0, []), (878, 1, false, .iconst 3, 3, 0, 0, []),
  (879, 1, false, .iadd, 0, 0, 0, []), (880, 1, false, .iaload, 0, 0, 0, []), (881, 1, false, .aload_n 0, 0, 0, 0, []), (882, 2, false, .iload 4, 4, 0, 0, []),
  (884, 1, false, .iconst 4, 4, 0, 0, []), (885, 1, false, .iadd, 0, 0, 0, []), (886, 1, false, .iaload, 0, 0, 0, []), (887, 3, false, .invokevirtual 138, 97, 5, 1, [0, 11]),
  (890, 2, false, .istore 6, 6, 0, 0, []), (892, 1, false, .aload_n 2, 2, 0, 0, []), (893, 3, false, .invokevirtual 101, 44, 1, 0, [0, 11]), (896, 2, false, .iload 5, 5, 0, 0, []),
  (898, 3, false, .if_icmp .eq 5, 903, 0, 0, []), (901, 1, false, .iconst 0, 0, 0, 0, []), (902, 1, false, .ireturn, 0, 0, 1, []), (903, 2, false, .iload 5, 5, 0, 0, []),
  (905, 3, false, .ifCond .ne 15, 920, 0, 0, []), (908, 1, false, .aload_n 3, 3, 0, 0, []), (909, 1, false, .iconst 0, 0, 0, 0, []), (910, 1, false, .laload, 0, 0, 0, []),
  (911, 2, false, .iload 6, 6, 0, 0, []), (913, 1, false, .i2l, 0, 0, 0, []), (914, 1, false, .lcmp, 0, 0, 0, []), (915, 3, false, .ifCond .eq 5, 920, 0, 0, []),
  (918, 1, false, .iconst 0, 0, 0, 0, []), (919, 1, false, .ireturn, 0, 0, 1, []), (920, 3, false, .goto 998, 1918, 0, 0, []), (923, 1, false, .aload_n 1, 1, 0, 0, []),
  (924, 1, false, .aload_n 0, 0, 0, 0, []), (925, 2, false, .iload 4, 4, 0, 0, []), (927, 1, false, .iconst 1, 1, 0, 0, []), (928, 1, false, .iadd, 0, 0, 0, []),
  (929, 1, false, .iaload, 0, 0, 0, []), (930, 1, false, .aload_n 0, 0, 0, 0, []), (931, 2, false, .iload 4, 4, 0, 0, []), (933, 1, false, .iconst 2, 2, 0, 0, []),
  (934, 1, false, .iadd, 0, 0, 0, []), (935, 1, false, .iaload, 0, 0, 0, []), (936, 1, false, .aload_n 0, 0, 0, 0, []), (937, 2, false, .iload 4, 4, 0, 0, []),
  (939, 1, false, .iconst 3, 3, 0, 0, []), (940, 1, false, .iadd, 0, 0, 0, []), (941, 1, false, .iaload, 0, 0, 0, []), (942, 1, false, .aload_n 3, 3, 0, 0, []),
  (943, 3, false, .invokestatic 139, 262, 5, 1, [0]), (946, 2, false, .istore 5, 5, 0, 0, []), (948, 1, false, .aload_n 2, 2, 0, 0, []), (949, 1, false, .aload_n 0, 0, 0, 0, []),
  (950, 2, false, .iload 4, 4, 0, 0, []), (952, 1, false, .iconst 1, 1, 0, 0, []), (953, 1, false, .iadd, 0, 0, 0, []), (954, 1, false, .iaload, 0, 0, 0, []),
  (955, 1, false, .aload_n 0, 0, 0, 0, []), (956, 2, false, .iload 4, 4, 0, 0, []), (958, 1, false, .iconst 2, 2, 0, 0, []), (959, 1, false, .iadd, 0, 0, 0, []),
  (960, 1, false, .iaload, 0, 0, 0, []), (961, 1, false, .aload_n 0, 0, 0, 0, []), (962, 2, false, .iload 4, 4, 0, 0, []), (964, 1, false, .iconst 3, 3, 0, 0, []),
  (965, 1, false, .iadd, 0, 0, 0, []), (966, 1, false, .iaload, 0, 0, 0, []), (967, 3, false, .invokevirtual 142, 98, 4, 1, [0, 11]), (970, 2, false, .istore 6, 6, 0, 0, []),
  (972, 1, false, .aload_n 2, 2, 0, 0, []), (973, 3, false, .invokevirtual 101, 44, 1, 0, [0, 11]), (976, 2, false, .iload 5, 5, 0, 0, []), (978, 3, false, .if_icmp .eq 5, 983, 0, 0, []),
  (981, 1, false, .iconst 0, 0, 0, 0, []), (982, 1, false, .ireturn, 0, 0, 1, []), (983, 2, false, .iload 5, 5, 0, 0, []), (985, 3, false, .ifCond .ne 15, 1000, 0, 0, []),
  (988, 1, false, .aload_n 3, 3, 0, 0, []), (989, 1, false, .iconst 0, 0, 0, 0, []), (990, 1, false, .laload, 0, 0, 0, []), (991, 2, false, .iload 6, 6, 0, 0, []),
  (993, 1, false, .i2l, 0, 0, 0, []), (994, 1, false, .lcmp, 0, 0, 0, []), (995, 3, false, .ifCond .eq 5, 1000, 0, 0, []), (998, 1, false, .iconst 0, 0, 0, 0, []),
  (999, 1, false, .ireturn, 0, 0, 1, []), (1000, 3, false, .goto 918, 1918, 0, 0, []), (1003, 1, false, .aload_n 1, 1, 0, 0, []), (1004, 1, false, .aload_n 0, 0, 0, 0, []),
  (1005, 2, false, .iload 4, 4, 0, 0, []), (1007, 1, false, .iconst 1, 1, 0, 0, []), (1008, 1, false, .iadd, 0, 0, 0, []), (1009, 1, false, .iaload, 0, 0, 0, []),
  (1010, 1, false, .aload_n 0, 0, 0, 0, []), (1011, 2, false, .iload 4, 4, 0, 0, []), (1013, 1, false, .iconst 2, 2, 0, 0, []), (1014, 1, false, .iadd, 0, 0, 0, []),
  (1015, 1, false, .iaload, 0, 0, 0, []), (1016, 1, false, .aload_n 0, 0, 0, 0, []), (1017, 2, false, .iload 4, 4, 0, 0, []), (1019, 1, false, .iconst 3, 3, 0, 0, []),
  (1020, 1, false, .iadd, 0, 0, 0, []), (1021, 1, false, .iaload, 0, 0, 0, []), (1022, 1, false, .aload_n 3, 3, 0, 0, []), (1023, 3, false, .invokestatic 143, 263, 5, 1, [0]),
  (1026, 2, false, .istore 5, 5, 0, 0, []), (1028, 1, false, .aload_n 2, 2, 0, 0, []), (1029, 1, false, .aload_n 0, 0, 0, 0, []), (1030, 2, false, .iload 4, 4, 0, 0, []),
  (1032, 1, false, .iconst 1, 1, 0, 0, []), (1033, 1, false, .iadd, 0, 0, 0, []), (1034, 1, false, .iaload, 0, 0, 0, []), (1035, 1, false, .aload_n 0, 0, 0, 0, []),
  (1036, 2, false, .iload 4, 4, 0, 0, []), (1038, 1, false, .iconst 2, 2, 0, 0, []), (1039, 1, false, .iadd, 0, 0, 0, []), (1040, 1, false, .iaload, 0, 0, 0, []),
  (1041, 1, false, .aload_n 0, 0, 0, 0, []), (1042, 2, false, .iload 4, 4, 0, 0, []), (1044, 1, false, .iconst 3, 3, 0, 0, []), (1045, 1, false, .iadd, 0, 0, 0, []),
  (1046, 1, false, .iaload, 0, 0, 0, []), (1047, 3, false, .invokevirtual 145, 99, 4, 1, [0, 11]), (1050, 2, false, .istore 6, 6, 0, 0, []), (1052, 1, false, .aload_n 2, 2, 0, 0, []),
  (1053, 3, false, .invokevirtual 101, 44, 1, 0, [0, 11]), (1056, 2, false, .iload 5, 5, 0, 0, []), (1058, 3, false, .if_icmp .eq 5, 1063, 0, 0, []), (1061, 1, false, .iconst 0, 0, 0, 0, []),
  (1062, 1, false, .ireturn, 0, 0, 1, []), (1063, 2, false, .iload 5, 5, 0, 0, []), (1065, 3, false, .ifCond .ne 15, 1080, 0, 0, []), (1068, 1, false, .aload_n 3, 3, 0, 0, []),
  (1069, 1, false, .iconst 0, 0, 0, 0, []), (1070, 1, false, .laload, 0, 0, 0, []), (1071, 2, false, .iload 6, 6, 0, 0, []), (1073, 1, false, .i2l, 0, 0, 0, []),
  (1074, 1, false, .lcmp, 0, 0, 0, []), (1075, 3, false, .ifCond .eq 5, 1080, 0, 0, []), (1078, 1, false, .iconst 0, 0, 0, 0, []), (1079, 1, false, .ireturn, 0, 0, 1, []),
  (1080, 3, false, .goto 838, 1918, 0, 0, []), (1083, 1, false, .aload_n 1, 1, 0, 0, []), (1084, 1, false, .aload_n 0, 0, 0, 0, []), (1085, 2, false, .iload 4, 4, 0, 0, []),
  (1087, 1, false, .iconst 1, 1, 0, 0, []), (1088, 1, false, .iadd, 0, 0, 0, []), (1089, 1, false, .iaload, 0, 0, 0, []), (1090, 1, false, .aload_n 0, 0, 0, 0, []),
  (1091, 2, false, .iload 4, 4, 0, 0, []), (1093, 1, false, .iconst 2, 2, 0, 0, []), (1094, 1, false, .iadd, 0, 0, 0, []), (1095, 1, false, .iaload, 0, 0, 0, []),
  (1096, 1, false, .aload_n 0, 0, 0, 0, []), (1097, 2, false, .iload 4, 4, 0, 0, []), (1099, 1, false, .iconst 3, 3, 0, 0, []), (1100, 1, false, .iadd, 0, 0, 0, []),
  (1101, 1, false, .iaload, 0, 0, 0, []), (1102, 1, false, .aload_n 3, 3, 0, 0, []), (1103, 3, false, .invokestatic 146, 264, 5, 1, [0]), (1106, 2, false, .istore 5, 5, 0, 0, []),
  (1108, 1, false, .aload_n 2, 2, 0, 0, []), (1109, 1, false, .aload_n 0, 0, 0, 0, []), (1110, 2, false, .iload 4, 4, 0, 0, []), (1112, 1, false, .iconst 1, 1, 0, 0, []),
  (1113, 1, false, .iadd, 0, 0, 0, []), (1114, 1, false, .iaload, 0, 0, 0, []), (1115, 1, false, .aload_n 0, 0, 0, 0, []), (1116, 2, false, .iload 4, 4, 0, 0, []),
  (1118, 1, false, .iconst 2, 2, 0, 0, []), (1119, 1, false, .iadd, 0, 0, 0, []), (1120, 1, false, .iaload, 0, 0, 0, []), (1121, 1, false, .aload_n 0, 0, 0, 0, []),
  (1122, 2, false, .iload 4, 4, 0, 0, []), (1124, 1, false, .iconst 3, 3, 0, 0, []), (1125, 1, false, .iadd, 0, 0, 0, []), (1126, 1, false, .iaload, 0, 0, 0, []),
  (1127, 3, false, .invokevirtual 148, 100, 4, 1, [0, 11]), (1130, 2, false, .istore 6, 6, 0, 0, []), (1132, 1, false, .aload_n 2, 2, 0, 0, []), (1133, 3, false, .invokevirtual 101, 44, 1, 0, [0, 11]),
  (1136, 2, false, .iload 5, 5, 0, 0, []), (1138, 3, false, .if_icmp .eq 5, 1143, 0, 0, []), (1141, 1, false, .iconst 0, 0, 0, 0, []), (1142, 1, false, .ireturn, 0, 0, 1, []),
  (1143, 2, false, .iload 5, 5, 0, 0, []), (1145, 3, false, .ifCond .ne 15, 1160, 0, 0, []), (1148, 1, false, .aload_n 3, 3, 0, 0, []), (1149, 1, false, .iconst 0, 0, 0, 0, []),
  (1150, 1, false, .laload, 0, 0, 0, []), (1151, 2, false, .iload 6, 6, 0, 0, []), (1153, 1, false, .i2l, 0, 0, 0, []), (1154, 1, false, .lcmp, 0, 0, 0, []),
  (1155, 3, false, .ifCond .eq 5, 1160, 0, 0, []), (1158, 1, false, .iconst 0, 0, 0, 0, []), (1159, 1, false, .ireturn, 0, 0, 1, []), (1160, 3, false, .goto 758, 1918, 0, 0, []),
  (1163, 1, false, .aload_n 1, 1, 0, 0, []), (1164, 1, false, .aload_n 0, 0, 0, 0, []), (1165, 2, false, .iload 4, 4, 0, 0, []), (1167, 1, false, .iconst 1, 1, 0, 0, []),
  (1168, 1, false, .iadd, 0, 0, 0, []), (1169, 1, false, .iaload, 0, 0, 0, []), (1170, 1, false, .aload_n 3, 3, 0, 0, []), (1171, 3, false, .invokestatic 149, 265, 3, 1, [0]),
  (1174, 2, false, .istore 5, 5, 0, 0, []), (1176, 1, false, .aload_n 2, 2, 0, 0, []), (1177, 1, false, .aload_n 0, 0, 0, 0, []), (1178, 2, false, .iload 4, 4, 0, 0, []),
  (1180, 1, false, .iconst 1, 1, 0, 0, []), (1181, 1, false, .iadd, 0, 0, 0, []), (1182, 1, false, .iaload, 0, 0, 0, []), (1183, 3, false, .invokevirtual 151, 104, 2, 0, [0, 11]),
  (1186, 2, false, .istore 6, 6, 0, 0, []), (1188, 1, false, .aload_n 2, 2, 0, 0, []), (1189, 3, false, .invokevirtual 101, 44, 1, 0, [0, 11]), (1192, 2, false, .iload 5, 5, 0, 0, []),
  (1194, 3, false, .if_icmp .eq 5, 1199, 0, 0, []), (1197, 1, false, .iconst 0, 0, 0, 0, []), (1198, 1, false, .ireturn, 0, 0, 1, []), (1199, 2, false, .iload 5, 5, 0, 0, []),
  (1201, 3, false, .ifCond .ne 15, 1216, 0, 0, []), (1204, 1, false, .aload_n 3, 3, 0, 0, []), (1205, 1, false, .iconst 0, 0, 0, 0, []), (1206, 1, false, .laload, 0, 0, 0, []),
  (1207, 2, false, .iload 6, 6, 0, 0, []), (1209, 1, false, .i2l, 0, 0, 0, []), (1210, 1, false, .lcmp, 0, 0, 0, []), (1211, 3, false, .ifCond .eq 5, 1216, 0, 0, []),
  (1214, 1, false, .iconst 0, 0, 0, 0, []), (1215, 1, false, .ireturn, 0, 0, 1, []), (1216, 3, false, .goto 702, 1918, 0, 0, []), (1219, 1, false, .aload_n 1, 1, 0, 0, []),
  (1220, 1, false, .aload_n 0, 0, 0, 0, []), (1221, 2, false, .iload 4, 4, 0, 0, []), (1223, 1, false, .iconst 1, 1, 0, 0, []), (1224, 1, false, .iadd, 0, 0, 0, []),
  (1225, 1, false, .iaload, 0, 0, 0, []), (1226, 1, false, .aload_n 0, 0, 0, 0, []), (1227, 2, false, .iload 4, 4, 0, 0, []), (1229, 1, false, .iconst 2, 2, 0, 0, []),
  (1230, 1, false, .iadd, 0, 0, 0, []), (1231, 1, false, .iaload, 0, 0, 0, []), (1232, 1, false, .aload_n 3, 3, 0, 0, []), (1233, 3, false, .invokestatic 152, 266, 4, 1, [0]),
  (1236, 2, false, .istore 5, 5, 0, 0, []), (1238, 1, false, .aload_n 2, 2, 0, 0, []), (1239, 1, false, .aload_n 0, 0, 0, 0, []), (1240, 2, false, .iload 4, 4, 0, 0, []),
  (1242, 1, false, .iconst 1, 1, 0, 0, []), (1243, 1, false, .iadd, 0, 0, 0, []), (1244, 1, false, .iaload, 0, 0, 0, []), (1245, 1, false, .aload_n 0, 0, 0, 0, []),
  (1246, 2, false, .iload 4, 4, 0, 0, []), (1248, 1, false, .iconst 2, 2, 0, 0, []), (1249, 1, false, .iadd, 0, 0, 0, []), (1250, 1, false, .iaload, 0, 0, 0, []),
  (1251, 3, false, .invokevirtual 154, 107, 3, 0, [0, 11]), (1254, 2, false, .lstore 6, 6, 0, 0, []), (1256, 1, false, .aload_n 2, 2, 0, 0, []), (1257, 3, false, .invokevirtual 101, 44, 1, 0, [0, 11]),
  (1260, 2, false, .iload 5, 5, 0, 0, []), (1262, 3, false, .if_icmp .eq 5, 1267, 0, 0, []), (1265, 1, false, .iconst 0, 0, 0, 0, []), (1266, 1, false, .ireturn, 0, 0, 1, []),
  (1267, 2, false, .iload 5, 5, 0, 0, []), (1269, 3, false, .ifCond .ne 14, 1283, 0, 0, []), (1272, 1, false, .aload_n 3, 3, 0, 0, []), (1273, 1, false, .iconst 0, 0, 0, 0, []),
  (1274, 1, false, .laload, 0, 0, 0, []), (1275, 2, false, .lload 6, 6, 0, 0, []), (1277, 1, false, .lcmp, 0, 0, 0, []), (1278, 3, false, .ifCond .eq 5, 1283, 0, 0, []),
  (1281, 1, false, .iconst 0, 0, 0, 0, []), (1282, 1, false, .ireturn, 0, 0, 1, []), (1283, 3, false, .goto 635, 1918, 0, 0, []), (1286, 1, false, .aload_n 1, 1, 0, 0, []),
  (1287, 1, false, .aload_n 0, 0, 0, 0, []), (1288, 2, false, .iload 4, 4, 0, 0, []), (1290, 1, false, .iconst 1, 1, 0, 0, []), (1291, 1, false, .iadd, 0, 0, 0, []),
  (1292, 1, false, .iaload, 0, 0, 0, []), (1293, 1, false, .aload_n 0, 0, 0, 0, []), (1294, 2, false, .iload 4, 4, 0, 0, []), (1296, 1, false, .iconst 2, 2, 0, 0, []),
  (1297, 1, false, .iadd, 0, 0, 0, []), (1298, 1, false, .iaload, 0, 0, 0, []), (1299, 1, false, .aload_n 0, 0, 0, 0, []), (1300, 2, false, .iload 4, 4, 0, 0, []),
  (1302, 1, false, .iconst 3, 3, 0, 0, []), (1303, 1, false, .iadd, 0, 0, 0, []), (1304, 1, false, .iaload, 0, 0, 0, []), (1305, 1, false, .aload_n 3, 3, 0, 0, []),
  (1306, 3, false, .invokestatic 155, 267, 5, 1, [0]), (1309, 2, false, .istore 5, 5, 0, 0, []), (1311, 1, false, .aload_n 2, 2, 0, 0, []), (1312, 1, false, .aload_n 0, 0, 0, 0, []),
  (1313, 2, false, .iload 4, 4, 0, 0, []), (1315, 1, false, .iconst 1, 1, 0, 0, []), (1316, 1, false, .iadd, 0, 0, 0, []), (1317, 1, false, .iaload, 0, 0, 0, []),
  (1318, 1, false, .aload_n 0, 0, 0, 0, []), (1319, 2, false, .iload 4, 4, 0, 0, []), (1321, 1, false, .iconst 2, 2, 0, 0, []), (1322, 1, false, .iadd, 0, 0, 0, []),
  (1323, 1, false, .iaload, 0, 0, 0, []), (1324, 1, false, .aload_n 0, 0, 0, 0, []), (1325, 2, false, .iload 4, 4, 0, 0, []), (1327, 1, false, .iconst 3, 3, 0, 0, []),
  (1328, 1, false, .iadd, 0, 0, 0, []), (1329, 1, false, .iaload, 0, 0, 0, []), (1330, 3, false, .invokevirtual 157, 108, 4, 0, [0, 11]), (1333, 2, false, .istore 6, 6, 0, 0, []),
  (1335, 1, false, .aload_n 2, 2, 0, 0, []), (1336, 3, false, .invokevirtual 101, 44, 1, 0, [0, 11]), (1339, 2, false, .iload 5, 5, 0, 0, []), (1341, 3, false, .if_icmp .eq 5, 1346, 0, 0, []),
  (1344, 1, false, .iconst 0, 0, 0, 0, []), (1345, 1, false, .ireturn, 0, 0, 1, []), (1346, 2, false, .iload 5, 5, 0, 0, []), (1348, 3, false, .ifCond .ne 15, 1363, 0, 0, []),
  (1351, 1, false, .aload_n 3, 3, 0, 0, []), (1352, 1, false, .iconst 0, 0, 0, 0, []), (1353, 1, false, .laload, 0, 0, 0, []), (1354, 2, false, .iload 6, 6, 0, 0, []),
  (1356, 1, false, .i2l, 0, 0, 0, []), (1357, 1, false, .lcmp, 0, 0, 0, []), (1358, 3, false, .ifCond .eq 5, 1363, 0, 0, []), (1361, 1, false, .iconst 0, 0, 0, 0, []),
  (1362, 1, false, .ireturn, 0, 0, 1, []), (1363, 3, false, .goto 555, 1918, 0, 0, []), (1366, 1, false, .aload_n 1, 1, 0, 0, []), (1367, 3, false, .invokevirtual 158, 19, 1, 0, [0, 10]),
  (1370, 1, false, .aload_n 2, 2, 0, 0, []), (1371, 3, false, .invokevirtual 161, 109, 1, 0, [0, 11]), (1374, 3, false, .if_icmp .eq 544, 1918, 0, 0, []), (1377, 1, false, .iconst 0, 0, 0, 0, []),
  (1378, 1, false, .ireturn, 0, 0, 1, []), (1379, 1, false, .aload_n 1, 1, 0, 0, []), (1380, 1, false, .aload_n 0, 0, 0, 0, []), (1381, 2, false, .iload 4, 4, 0, 0, []),
  (1383, 1, false, .iconst 1, 1, 0, 0, []), (1384, 1, false, .iadd, 0, 0, 0, []), (1385, 1, false, .iaload, 0, 0, 0, []), (1386, 1, false, .aload_n 0, 0, 0, 0, []),
  (1387, 2, false, .iload 4, 4, 0, 0, []), (1389, 1, false, .iconst 2, 2, 0, 0, []), (1390, 1, false, .iadd, 0, 0, 0, []), (1391, 1, false, .iaload, 0, 0, 0, []),
  (1392, 1, false, .aload_n 3, 3, 0, 0, []), (1393, 3, false, .invokestatic 162, 268, 4, 1, [0]), (1396, 2, false, .istore 5, 5, 0, 0, []), (1398, 1, false, .aload_n 2, 2, 0, 0, []),
  (1399, 1, false, .aload_n 0, 0, 0, 0, []), (1400, 2, false, .iload 4, 4, 0, 0, []), (1402, 1, false, .iconst 1, 1, 0, 0, []), (1403, 1, false, .iadd, 0, 0, 0, []),
  (1404, 1, false, .iaload, 0, 0, 0, []), (1405, 1, false, .aload_n 0, 0, 0, 0, []), (1406, 2, false, .iload 4, 4, 0, 0, []), (1408, 1, false, .iconst 2, 2, 0, 0, []),
  (1409, 1, false, .iadd, 0, 0, 0, []), (1410, 1, false, .iaload, 0, 0, 0, []), (1411, 3, false, .invokevirtual 164, 112, 3, 0, [0, 11]), (1414, 2, false, .istore 6, 6, 0, 0, []),
  (1416, 1, false, .aload_n 2, 2, 0, 0, []), (1417, 3, false, .invokevirtual 101, 44, 1, 0, [0, 11]), (1420, 2, false, .iload 5, 5, 0, 0, []), (1422, 3, false, .if_icmp .eq 5, 1427, 0, 0, []),
  (1425, 1, false, .iconst 0, 0, 0, 0, []), (1426, 1, false, .ireturn, 0, 0, 1, []), (1427, 2, false, .iload 5, 5, 0, 0, []), (1429, 3, false, .ifCond .ne 15, 1444, 0, 0, []),
  (1432, 1, false, .aload_n 3, 3, 0, 0, []), (1433, 1, false, .iconst 0, 0, 0, 0, []), (1434, 1, false, .laload, 0, 0, 0, []), (1435, 2, false, .iload 6, 6, 0, 0, []),
  (1437, 1, false, .i2l, 0, 0, 0, []), (1438, 1, false, .lcmp, 0, 0, 0, []), (1439, 3, false, .ifCond .eq 5, 1444, 0, 0, []), (1442, 1, false, .iconst 0, 0, 0, 0, []),
  (1443, 1, false, .ireturn, 0, 0, 1, []), (1444, 3, false, .goto 474, 1918, 0, 0, []), (1447, 1, false, .aload_n 1, 1, 0, 0, []), (1448, 1, false, .aload_n 0, 0, 0, 0, []),
  (1449, 2, false, .iload 4, 4, 0, 0, []), (1451, 1, false, .iconst 1, 1, 0, 0, []), (1452, 1, false, .iadd, 0, 0, 0, []), (1453, 1, false, .iaload, 0, 0, 0, []),
  (1454, 1, false, .aload_n 0, 0, 0, 0, []), (1455, 2, false, .iload 4, 4, 0, 0, []), (1457, 1, false, .iconst 2, 2, 0, 0, []), (1458, 1, false, .iadd, 0, 0, 0, []),
  (1459, 1, false, .iaload, 0, 0, 0, []), (1460, 1, false, .aload_n 3, 3, 0, 0, []), (1461, 3, false, .invokestatic 165, 269, 4, 1, [0]), (1464, 2, false, .istore 5, 5, 0, 0, []),
  (1466, 1, false, .aload_n 2, 2, 0, 0, []), (1467, 1, false, .aload_n 0, 0, 0, 0, []), (1468, 2, false, .iload 4, 4, 0, 0, []), (1470, 1, false, .iconst 1, 1, 0, 0, []),
  (1471, 1, false, .iadd, 0, 0, 0, []), (1472, 1, false, .iaload, 0, 0, 0, []), (1473, 1, false, .aload_n 0, 0, 0, 0, []), (1474, 2, false, .iload 4, 4, 0, 0, []),
  (1476, 1, false, .iconst 2, 2, 0, 0, []), (1477, 1, false, .iadd, 0, 0, 0, []), (1478, 1, false, .iaload, 0, 0, 0, []), (1479, 3, false, .invokevirtual 167, 113, 3, 0, [0, 11]),
  (1482, 2, false, .istore 6, 6, 0, 0, []), (1484, 1, false, .aload_n 2, 2, 0, 0, []), (1485, 3, false, .invokevirtual 101, 44, 1, 0, [0, 11]), (1488, 2, false, .iload 5, 5, 0, 0, []),
  (1490, 3, false, .if_icmp .eq 5, 1495, 0, 0, []), (1493, 1, false, .iconst 0, 0, 0, 0, []), (1494, 1, false, .ireturn, 0, 0, 1, []), (1495, 2, false, .iload 5, 5, 0, 0, []),
  (1497, 3, false, .ifCond .ne 15, 1512, 0, 0, []), (1500, 1, false, .aload_n 3, 3, 0, 0, []), (1501, 1, false, .iconst 0, 0, 0, 0, []), (1502, 1, false, .laload, 0, 0, 0, []),
  (1503, 2, false, .iload 6, 6, 0, 0, []), (1505, 1, false, .i2l, 0, 0, 0, []), (1506, 1, false, .lcmp, 0, 0, 0, []), (1507, 3, false, .ifCond .eq 5, 1512, 0, 0, []),
  (1510, 1, false, .iconst 0, 0, 0, 0, []), (1511, 1, false, .ireturn, 0, 0, 1, []), (1512, 3, false, .goto 406, 1918, 0, 0, []), (1515, 1, false, .aload_n 1, 1, 0, 0, []),
  (1516, 1, false, .aload_n 0, 0, 0, 0, []), (1517, 2, false, .iload 4, 4, 0, 0, []), (1519, 1, false, .iconst 1, 1, 0, 0, []), (1520, 1, false, .iadd, 0, 0, 0, []),
  (1521, 1, false, .iaload, 0, 0, 0, []), (1522, 1, false, .aload_n 0, 0, 0, 0, []), (1523, 2, false, .iload 4, 4, 0, 0, []), (1525, 1, false, .iconst 2, 2, 0, 0, []),
  (1526, 1, false, .iadd, 0, 0, 0, []), (1527, 1, false, .iaload, 0, 0, 0, []), (1528, 1, false, .aload_n 3, 3, 0, 0, []), (1529, 3, false, .invokestatic 168, 270, 4, 1, [0]),
  (1532, 2, false, .istore 5, 5, 0, 0, []), (1534, 1, false, .aload_n 2, 2, 0, 0, []), (1535, 1, false, .aload_n 0, 0, 0, 0, []), (1536, 2, false, .iload 4, 4, 0, 0, []),
  (1538, 1, false, .iconst 1, 1, 0, 0, []), (1539, 1, false, .iadd, 0, 0, 0, []), (1540, 1, false, .iaload, 0, 0, 0, []), (1541, 1, false, .aload_n 0, 0, 0, 0, []),
  (1542, 2, false, .iload 4, 4, 0, 0, []), (1544, 1, false, .iconst 2, 2, 0, 0, []), (1545, 1, false, .iadd, 0, 0, 0, []), (1546, 1, false, .iaload, 0, 0, 0, []),
  (1547, 3, false, .invokevirtual 170, 114, 3, 1, [0, 11]), (1550, 2, false, .istore 6, 6, 0, 0, []), (1552, 1, false, .aload_n 2, 2, 0, 0, []), (1553, 3, false, .invokevirtual 101, 44, 1, 0, [0, 11]),
  (1556, 2, false, .iload 5, 5, 0, 0, []), (1558, 3, false, .if_icmp .eq 5, 1563, 0, 0, []), (1561, 1, false, .iconst 0, 0, 0, 0, []), (1562, 1, false, .ireturn, 0, 0, 1, []),
  (1563, 2, false, .iload 5, 5, 0, 0, []), (1565, 3, false, .ifCond .ne 15, 1580, 0, 0, []), (1568, 1, false, .aload_n 3, 3, 0, 0, []), (1569, 1, false, .iconst 0, 0, 0, 0, []),
  (1570, 1, false, .laload, 0, 0, 0, []), (1571, 2, false, .iload 6, 6, 0, 0, []), (1573, 1, false, .i2l, 0, 0, 0, []), (1574, 1, false, .lcmp, 0, 0, 0, []),
  (1575, 3, false, .ifCond .eq 5, 1580, 0, 0, []), (1578, 1, false, .iconst 0, 0, 0, 0, []), (1579, 1, false, .ireturn, 0, 0, 1, []), (1580, 3, false, .goto 338, 1918, 0, 0, []),
  (1583, 1, false, .aload_n 1, 1, 0, 0, []), (1584, 1, false, .aload_n 0, 0, 0, 0, []), (1585, 2, false, .iload 4, 4, 0, 0, []), (1587, 1, false, .iconst 1, 1, 0, 0, []),
  (1588, 1, false, .iadd, 0, 0, 0, []), (1589, 1, false, .iaload, 0, 0, 0, []), (1590, 1, false, .aload_n 0, 0, 0, 0, []), (1591, 2, false, .iload 4, 4, 0, 0, []),
  (1593, 1, false, .iconst 2, 2, 0, 0, []), (1594, 1, false, .iadd, 0, 0, 0, []), (1595, 1, false, .iaload, 0, 0, 0, []), (1596, 1, false, .aload_n 0, 0, 0, 0, []),
  (1597, 2, false, .iload 4, 4, 0, 0, []), (1599, 1, false, .iconst 3, 3, 0, 0, []), (1600, 1, false, .iadd, 0, 0, 0, []), (1601, 1, false, .iaload, 0, 0, 0, []),
  (1602, 1, false, .aload_n 3, 3, 0, 0, []), (1603, 3, false, .invokestatic 171, 271, 5, 1, [0]), (1606, 2, false, .istore 5, 5, 0, 0, []), (1608, 1, false, .aload_n 2, 2, 0, 0, []),
  (1609, 1, false, .aload_n 0, 0, 0, 0, []), (1610, 2, false, .iload 4, 4, 0, 0, []), (1612, 1, false, .iconst 1, 1, 0, 0, []), (1613, 1, false, .iadd, 0, 0, 0, []),
  (1614, 1, false, .iaload, 0, 0, 0, []), (1615, 1, false, .aload_n 0, 0, 0, 0, []), (1616, 2, false, .iload 4, 4, 0, 0, []), (1618, 1, false, .iconst 2, 2, 0, 0, []),
  (1619, 1, false, .iadd, 0, 0, 0, []), (1620, 1, false, .iaload, 0, 0, 0, []), (1621, 1, false, .aload_n 0, 0, 0, 0, []), (1622, 2, false, .iload 4, 4, 0, 0, []),
  (1624, 1, false, .iconst 3, 3, 0, 0, []), (1625, 1, false, .iadd, 0, 0, 0, []), (1626, 1, false, .iaload, 0, 0, 0, []), (1627, 3, false, .invokevirtual 173, 115, 4, 0, [0, 11]),
  (1630, 2, false, .istore 6, 6, 0, 0, []), (1632, 1, false, .aload_n 2, 2, 0, 0, []), (1633, 3, false, .invokevirtual 101, 44, 1, 0, [0, 11]), (1636, 2, false, .iload 5, 5, 0, 0, []),
  (1638, 3, false, .if_icmp .eq 5, 1643, 0, 0, []), (1641, 1, false, .iconst 0, 0, 0, 0, []), (1642, 1, false, .ireturn, 0, 0, 1, []), (1643, 2, false, .iload 5, 5, 0, 0, []),
  (1645, 3, false, .ifCond .ne 15, 1660, 0, 0, []), (1648, 1, false, .aload_n 3, 3, 0, 0, []), (1649, 1, false, .iconst 0, 0, 0, 0, []), (1650, 1, false, .laload, 0, 0, 0, []),
  (1651, 2, false, .iload 6, 6, 0, 0, []), (1653, 1, false, .i2l, 0, 0, 0, []), (1654, 1, false, .lcmp, 0, 0, 0, []), (1655, 3, false, .ifCond .eq 5, 1660, 0, 0, []),
  (1658, 1, false, .iconst 0, 0, 0, 0, []), (1659, 1, false, .ireturn, 0, 0, 1, []), (1660, 3, false, .goto 258, 1918, 0, 0, []), (1663, 1, false, .aload_n 1, 1, 0, 0, []),
  (1664, 3, false, .invokevirtual 174, 24, 1, 0, [0, 10]), (1667, 1, false, .aload_n 2, 2, 0, 0, []), (1668, 3, false, .invokevirtual 177, 116, 1, 0, [0, 11]), (1671, 3, false, .if_icmp .eq 247, 1918, 0, 0, []),
  (1674, 1, false, .iconst 0, 0, 0, 0, []), (1675, 1, false, .ireturn, 0, 0, 1, []), (1676, 1, false, .aload_n 1, 1, 0, 0, []), (1677, 1, false, .aload_n 0, 0, 0, 0, []),
  (1678, 2, false, .iload 4, 4, 0, 0, []), (1680, 1, false, .iconst 1, 1, 0, 0, []), (1681, 1, false, .iadd, 0, 0, 0, []), (1682, 1, false, .iaload, 0, 0, 0, []),
  (1683, 1, false, .aload_n 3, 3, 0, 0, []), (1684, 3, false, .invokestatic 178, 272, 3, 1, [0]), (1687, 2, false, .istore 5, 5, 0, 0, []), (1689, 1, false, .aload_n 2, 2, 0, 0, []),
  (1690, 1, false, .aload_n 0, 0, 0, 0, []), (1691, 2, false, .iload 4, 4, 0, 0, []), (1693, 1, false, .iconst 1, 1, 0, 0, []), (1694, 1, false, .iadd, 0, 0, 0, []),
  (1695, 1, false, .iaload, 0, 0, 0, []), (1696, 3, false, .invokevirtual 180, 119, 2, 0, [0, 11]), (1699, 2, false, .istore 6, 6, 0, 0, []), (1701, 1, false, .aload_n 2, 2, 0, 0, []),
  (1702, 3, false, .invokevirtual 101, 44, 1, 0, [0, 11]), (1705, 2, false, .iload 5, 5, 0, 0, []), (1707, 3, false, .if_icmp .eq 5, 1712, 0, 0, []), (1710, 1, false, .iconst 0, 0, 0, 0, []),
  (1711, 1, false, .ireturn, 0, 0, 1, []), (1712, 2, false, .iload 5, 5, 0, 0, []), (1714, 3, false, .ifCond .ne 15, 1729, 0, 0, []), (1717, 1, false, .aload_n 3, 3, 0, 0, []),
  (1718, 1, false, .iconst 0, 0, 0, 0, []), (1719, 1, false, .laload, 0, 0, 0, []), (1720, 2, false, .iload 6, 6, 0, 0, []), (1722, 1, false, .i2l, 0, 0, 0, []),
  (1723, 1, false, .lcmp, 0, 0, 0, []), (1724, 3, false, .ifCond .eq 5, 1729, 0, 0, []), (1727, 1, false, .iconst 0, 0, 0, 0, []), (1728, 1, false, .ireturn, 0, 0, 1, []),
  (1729, 3, false, .goto 189, 1918, 0, 0, []), (1732, 1, false, .aload_n 1, 1, 0, 0, []), (1733, 1, false, .aload_n 0, 0, 0, 0, []), (1734, 2, false, .iload 4, 4, 0, 0, []),
  (1736, 1, false, .iconst 1, 1, 0, 0, []), (1737, 1, false, .iadd, 0, 0, 0, []), (1738, 1, false, .iaload, 0, 0, 0, []), (1739, 1, false, .aload_n 0, 0, 0, 0, []),
  (1740, 2, false, .iload 4, 4, 0, 0, []), (1742, 1, false, .iconst 2, 2, 0, 0, []), (1743, 1, false, .iadd, 0, 0, 0, []), (1744, 1, false, .iaload, 0, 0, 0, []),
  (1745, 1, false, .aload_n 3, 3, 0, 0, []), (1746, 3, false, .invokestatic 181, 273, 4, 1, [0]), (1749, 2, false, .istore 5, 5, 0, 0, []), (1751, 1, false, .aload_n 2, 2, 0, 0, []),
  (1752, 1, false, .aload_n 0, 0, 0, 0, []), (1753, 2, false, .iload 4, 4, 0, 0, []), (1755, 1, false, .iconst 1, 1, 0, 0, []), (1756, 1, false, .iadd, 0, 0, 0, []),
  (1757, 1, false, .iaload, 0, 0, 0, []), (1758, 1, false, .aload_n 0, 0, 0, 0, []), (1759, 2, false, .iload 4, 4, 0, 0, []), (1761, 1, false, .iconst 2, 2, 0, 0, []),
  (1762, 1, false, .iadd, 0, 0, 0, []), (1763, 1, false, .iaload, 0, 0, 0, []), (1764, 3, false, .invokevirtual 183, 121, 3, 0, [0, 11]), (1767, 2, false, .lstore 6, 6, 0, 0, []),
  (1769, 1, false, .aload_n 2, 2, 0, 0, []), (1770, 3, false, .invokevirtual 101, 44, 1, 0, [0, 11]), (1773, 2, false, .iload 5, 5, 0, 0, []), (1775, 3, false, .if_icmp .eq 5, 1780, 0, 0, []),
  (1778, 1, false, .iconst 0, 0, 0, 0, []), (1779, 1, false, .ireturn, 0, 0, 1, []), (1780, 2, false, .iload 5, 5, 0, 0, []), (1782, 3, false, .ifCond .ne 14, 1796, 0, 0, []),
  (1785, 1, false, .aload_n 3, 3, 0, 0, []), (1786, 1, false, .iconst 0, 0, 0, 0, []), (1787, 1, false, .laload, 0, 0, 0, []), (1788, 2, false, .lload 6, 6, 0, 0, []),
  (1790, 1, false, .lcmp, 0, 0, 0, []), (1791, 3, false, .ifCond .eq 5, 1796, 0, 0, []), (1794, 1, false, .iconst 0, 0, 0, 0, []), (1795, 1, false, .ireturn, 0, 0, 1, []),
  (1796, 3, false, .goto 122, 1918, 0, 0, []), (1799, 1, false, .aload_n 1, 1, 0, 0, []), (1800, 1, false, .aload_n 0, 0, 0, 0, []), (1801, 2, false, .iload 4, 4, 0, 0, []),
  (1803, 1, false, .iconst 1, 1, 0, 0, []), (1804, 1, false, .iadd, 0, 0, 0, []), (1805, 1, false, .iaload, 0, 0, 0, []), (1806, 1, false, .aload_n 0, 0, 0, 0, []),
  (1807, 2, false, .iload 4, 4, 0, 0, []), (1809, 1, false, .iconst 2, 2, 0, 0, []), (1810, 1, false, .iadd, 0, 0, 0, []), (1811, 1, false, .iaload, 0, 0, 0, []),
  (1812, 1, false, .aload_n 3, 3, 0, 0, []), (1813, 3, false, .invokestatic 184, 274, 4, 1, [0]), (1816, 2, false, .istore 5, 5, 0, 0, []), (1818, 1, false, .aload_n 2, 2, 0, 0, []),
  (1819, 1, false, .aload_n 0, 0, 0, 0, []), (1820, 2, false, .iload 4, 4, 0, 0, []), (1822, 1, false, .iconst 1, 1, 0, 0, []), (1823, 1, false, .iadd, 0, 0, 0, []),
  (1824, 1, false, .iaload, 0, 0, 0, []), (1825, 1, false, .aload_n 0, 0, 0, 0, []), (1826, 2, false, .iload 4, 4, 0, 0, []), (1828, 1, false, .iconst 2, 2, 0, 0, []),
  (1829, 1, false, .iadd, 0, 0, 0, []), (1830, 1, false, .iaload, 0, 0, 0, []), (1831, 3, false, .invokevirtual 186, 122, 3, 0, [0, 11]), (1834, 2, false, .istore 6, 6, 0, 0, []),
  (1836, 1, false, .aload_n 2, 2, 0, 0, []), (1837, 3, false, .invokevirtual 101, 44, 1, 0, [0, 11]), (1840, 2, false, .iload 5, 5, 0, 0, []), (1842, 3, false, .if_icmp .eq 5, 1847, 0, 0, []),
  (1845, 1, false, .iconst 0, 0, 0, 0, []), (1846, 1, false, .ireturn, 0, 0, 1, []), (1847, 2, false, .iload 5, 5, 0, 0, []), (1849, 3, false, .ifCond .ne 15, 1864, 0, 0, []),
  (1852, 1, false, .aload_n 3, 3, 0, 0, []), (1853, 1, false, .iconst 0, 0, 0, 0, []), (1854, 1, false, .laload, 0, 0, 0, []), (1855, 2, false, .iload 6, 6, 0, 0, []),
  (1857, 1, false, .i2l, 0, 0, 0, []), (1858, 1, false, .lcmp, 0, 0, 0, []), (1859, 3, false, .ifCond .eq 5, 1864, 0, 0, []), (1862, 1, false, .iconst 0, 0, 0, 0, []),
  (1863, 1, false, .ireturn, 0, 0, 1, []), (1864, 3, false, .goto 54, 1918, 0, 0, []), (1867, 1, false, .aload_n 1, 1, 0, 0, []), (1868, 3, false, .invokevirtual 187, 28, 1, 0, [0, 10]),
  (1871, 1, false, .aload_n 2, 2, 0, 0, []), (1872, 3, false, .invokevirtual 190, 125, 1, 0, [0, 11]), (1875, 3, false, .if_icmp .eq 43, 1918, 0, 0, []), (1878, 1, false, .iconst 0, 0, 0, 0, []),
  (1879, 1, false, .ireturn, 0, 0, 1, []), (1880, 1, false, .aload_n 1, 1, 0, 0, []), (1881, 3, false, .invokevirtual 191, 29, 1, 0, [0, 10]), (1884, 1, false, .aload_n 2, 2, 0, 0, []),
  (1885, 3, false, .invokevirtual 194, 126, 1, 0, [0, 11]), (1888, 3, false, .if_icmp .eq 30, 1918, 0, 0, []), (1891, 1, false, .iconst 0, 0, 0, 0, []), (1892, 1, false, .ireturn, 0, 0, 1, []),
  (1893, 1, false, .aload_n 1, 1, 0, 0, []), (1894, 1, false, .aload_n 0, 0, 0, 0, []), (1895, 2, false, .iload 4, 4, 0, 0, []), (1897, 1, false, .iconst 1, 1, 0, 0, []),
  (1898, 1, false, .iadd, 0, 0, 0, []), (1899, 1, false, .iaload, 0, 0, 0, []), (1900, 3, false, .invokevirtual 195, 30, 2, 0, [0, 10]), (1903, 1, false, .aload_n 2, 2, 0, 0, []),
  (1904, 1, false, .aload_n 0, 0, 0, 0, []), (1905, 2, false, .iload 4, 4, 0, 0, []), (1907, 1, false, .iconst 1, 1, 0, 0, []), (1908, 1, false, .iadd, 0, 0, 0, []),
  (1909, 1, false, .iaload, 0, 0, 0, []), (1910, 3, false, .invokevirtual 198, 127, 2, 0, [0, 11]), (1913, 3, false, .if_icmp .eq 5, 1918, 0, 0, []), (1916, 1, false, .iconst 0, 0, 0, 0, []),
  (1917, 1, false, .ireturn, 0, 0, 1, []), (1918, 3, false, .iinc 4 6, 4, 6, 0, []), (1921, 3, false, .goto (-1898), 23, 0, 0, []), (1924, 1, false, .iconst 1, 1, 0, 0, []),
  (1925, 1, false, .ireturn, 0, 0, 1, [])]
def k_Jint_bitCount : List El := [(0, 1, false, .iload_n 0, 0, 0, 0, []), (1, 1, false, .iload_n 0, 0, 0, 0, []), (2, 1, false, .iconst 1, 1, 0, 0, []), (3, 1, false, .iushr, 0, 0, 0, []),
  (4, 3, false, .ldc_w 265, 1431655765, 0, 0, []), (7, 1, false, .iand, 0, 0, 0, []), (8, 1, false, .isub, 0, 0, 0, []), (9, 1, false, .istore_n 0, 0, 0, 0, []),
  (10, 1, false, .iload_n 0, 0, 0, 0, []), (11, 3, false, .ldc_w 266, 858993459, 0, 0, []), (14, 1, false, .iand, 0, 0, 0, []), (15, 1, false, .iload_n 0, 0, 0, 0, []),
  (16, 1, false, .iconst 2, 2, 0, 0, []), (17, 1, false, .iushr, 0, 0, 0, []), (18, 3, false, .ldc_w 266, 858993459, 0, 0, []), (21, 1, false, .iand, 0, 0, 0, []),
  (22, 1, false, .iadd, 0, 0, 0, []), (23, 1, false, .istore_n 0, 0, 0, 0, []), (24, 1, false, .iload_n 0, 0, 0, 0, []), (25, 1, false, .iload_n 0, 0, 0, 0, []),
  (26, 1, false, .iconst 4, 4, 0, 0, []), (27, 1, false, .iushr, 0, 0, 0, []), (28, 1, false, .iadd, 0, 0, 0, []), (29, 3, false, .ldc_w 267, 252645135, 0, 0, []),
  (32, 1, false, .iand, 0, 0, 0, []), (33, 1, false, .istore_n 0, 0, 0, 0, []), (34, 1, false, .iload_n 0, 0, 0, 0, []), (35, 1, false, .iload_n 0, 0, 0, 0, []),
  (36, 2, false, .bipush 8, 8, 0, 0, []), (38, 1, false, .iushr, 0, 0, 0, []), (39, 1, false, .iadd, 0, 0, 0, []), (40, 1, false, .istore_n 0, 0, 0, 0, []),
  (41, 1, false, .iload_n 0, 0, 0, 0, []), (42, 1, false, .iload_n 0, 0, 0, 0, []), (43, 2, false, .bipush 16, 16, 0, 0, []), (45, 1, false, .iushr, 0, 0, 0, []),
  (46, 1, false, .iadd, 0, 0, 0, []), (47, 1, false, .istore_n 0, 0, 0, 0, []), (48, 1, false, .iload_n 0, 0, 0, 0, []), (49, 2, false, .bipush 63, 63, 0, 0, []),
  (51, 1, false, .iand, 0, 0, 0, []), (52, 1, false, .ireturn, 0, 0, 0, [])]
