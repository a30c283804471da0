/-- words that a called method gets by its contract's start, not by its words -/
def ix_bad : Cond → Bool
  | .methodLinkNest _ _ _ _ => true
  | .fieldLinkNest _ _ _ _ _ _ => true
  | .arrayOver (.object _) => true
  | _ => false
def ix_use (w : Cond) : Bool := goodWord w || ix_bad w
def ix_tb : List Cond := lw_tbl.filter ix_use
def ix_T0 : u_T := fun k => match k with
  | 0 => ("VotedBank$Book", "lines", "[I", true)
  | _ => ("VotedBank$Book", "count", "I", false)
def ix_y0 : Nat → FieldType := fun k => match k with
  | 0 => (.array .int)
  | _ => .int
def ix_T1 : u_T := fun k => match k with
  | 0 => ("VotedBank$Crossing", "laid", "[I", true)
  | 1 => ("VotedBank$Crossing", "turnings", "I", false)
  | 2 => ("VotedBank$Crossing", "world", "LVotedBank$World;", true)
  | 3 => ("VotedBank$Crossing", "law", "LVotedBank$Law;", true)
  | 4 => ("VotedBank$Crossing", "copy", "LVotedBank$River;", true)
  | 5 => ("VotedBank$Crossing", "river", "LVotedBank$River;", false)
  | 6 => ("VotedBank$Crossing", "inThought", "Z", false)
  | _ => ("VotedBank$Crossing", "aboard", "I", false)
def ix_y1 : Nat → FieldType := fun k => match k with
  | 0 => (.array .int)
  | 1 => .int
  | 2 => (.object "VotedBank$World")
  | 3 => (.object "VotedBank$Law")
  | 4 => (.object "VotedBank$River")
  | 5 => (.object "VotedBank$River")
  | 6 => .boolean
  | _ => .int
def ix_T2 : u_T := fun k => match k with
  | 0 => ("VotedBank$Law", "steps", "[I", true)
  | 1 => ("VotedBank$Law", "word", "[I", true)
  | 2 => ("VotedBank$Law", "from", "[I", true)
  | 3 => ("VotedBank$Law", "when", "[I", true)
  | 4 => ("VotedBank$Law", "until", "[I", true)
  | 5 => ("VotedBank$Law", "stack", "[I", true)
  | 6 => ("VotedBank$Law", "values", "[I", true)
  | 7 => ("VotedBank$Law", "lines", "I", false)
  | _ => ("VotedBank$Law", "size", "I", false)
def ix_y2 : Nat → FieldType := fun k => match k with
  | 0 => (.array .int)
  | 1 => (.array .int)
  | 2 => (.array .int)
  | 3 => (.array .int)
  | 4 => (.array .int)
  | 5 => (.array .int)
  | 6 => (.array .int)
  | 7 => .int
  | _ => .int
def ix_T3 : u_T := fun k => match k with
  | 0 => ("VotedBank$Parser", "draft", "LVotedBank$Texts;", true)
  | 1 => ("VotedBank$Parser", "blame", "I", false)
  | 2 => ("VotedBank$Parser", "blamePlace", "I", false)
  | 3 => ("VotedBank$Parser", "tape", "LVotedBank$Tape;", true)
  | _ => ("VotedBank$Parser", "everyone", "I", false)
def ix_y3 : Nat → FieldType := fun k => match k with
  | 0 => (.object "VotedBank$Texts")
  | 1 => .int
  | 2 => .int
  | 3 => (.object "VotedBank$Tape")
  | _ => .int
def ix_T4 : u_T := fun k => match k with
  | 0 => ("VotedBank$Past", "rivers", "[LVotedBank$River;", true)
  | 1 => ("VotedBank$Past", "bookLines", "[I", true)
  | 2 => ("VotedBank$Past", "next", "I", false)
  | _ => ("VotedBank$Past", "count", "I", false)
def ix_y4 : Nat → FieldType := fun k => match k with
  | 0 => (.array (.object "VotedBank$River"))
  | 1 => (.array .int)
  | 2 => .int
  | _ => .int
def ix_T5 : u_T := fun k => match k with
  | 0 => ("VotedBank$Poll", "world", "LVotedBank$World;", true)
  | 1 => ("VotedBank$Poll", "shells", "[I", true)
  | 2 => ("VotedBank$Poll", "laid", "[I", true)
  | 3 => ("VotedBank$Poll", "listed", "[I", true)
  | 4 => ("VotedBank$Poll", "ahead", "[I", true)
  | 5 => ("VotedBank$Poll", "cheapest", "I", false)
  | _ => ("VotedBank$Poll", "cheapestSet", "I", false)
def ix_y5 : Nat → FieldType := fun k => match k with
  | 0 => (.object "VotedBank$World")
  | 1 => (.array .int)
  | 2 => (.array .int)
  | 3 => (.array .int)
  | 4 => (.array .int)
  | 5 => .int
  | _ => .int
def ix_T6 : u_T := fun k => match k with
  | 0 => ("VotedBank$River", "state", "I", false)
  | 1 => ("VotedBank$River", "bank", "I", false)
  | 2 => ("VotedBank$River", "age", "I", false)
  | 3 => ("VotedBank$River", "stream", "I", false)
  | 4 => ("VotedBank$River", "minute", "I", false)
  | 5 => ("VotedBank$River", "crossed", "I", false)
  | 6 => ("VotedBank$River", "count", "I", false)
  | 7 => ("VotedBank$River", "over", "I", false)
  | 8 => ("VotedBank$River", "rank", "[I", true)
  | 9 => ("VotedBank$River", "child", "[I", true)
  | 10 => ("VotedBank$River", "talk", "[I", true)
  | 11 => ("VotedBank$River", "firm", "[I", true)
  | 12 => ("VotedBank$River", "waded", "[I", true)
  | _ => ("VotedBank$River", "turned", "[I", true)
def ix_y6 : Nat → FieldType := fun k => match k with
  | 0 => .int
  | 1 => .int
  | 2 => .int
  | 3 => .int
  | 4 => .int
  | 5 => .int
  | 6 => .int
  | 7 => .int
  | 8 => (.array .int)
  | 9 => (.array .int)
  | 10 => (.array .int)
  | 11 => (.array .int)
  | 12 => (.array .int)
  | _ => (.array .int)
def ix_T7 : u_T := fun k => match k with
  | 0 => ("VotedBank$Tape", "bytes", "[B", true)
  | 1 => ("VotedBank$Tape", "size", "I", false)
  | 2 => ("VotedBank$Tape", "kinds", "[I", true)
  | 3 => ("VotedBank$Tape", "values", "[I", true)
  | 4 => ("VotedBank$Tape", "places", "[I", true)
  | 5 => ("VotedBank$Tape", "tokens", "I", false)
  | 6 => ("VotedBank$Tape", "at", "I", false)
  | 7 => ("VotedBank$Tape", "kind", "I", false)
  | 8 => ("VotedBank$Tape", "value", "I", false)
  | _ => ("VotedBank$Tape", "place", "I", false)
def ix_y7 : Nat → FieldType := fun k => match k with
  | 0 => (.array .byte)
  | 1 => .int
  | 2 => (.array .int)
  | 3 => (.array .int)
  | 4 => (.array .int)
  | 5 => .int
  | 6 => .int
  | 7 => .int
  | 8 => .int
  | _ => .int
def ix_T8 : u_T := fun k => match k with
  | 0 => ("VotedBank$Texts", "law", "LVotedBank$Law;", true)
  | 1 => ("VotedBank$Texts", "hears", "[I", true)
  | 2 => ("VotedBank$Texts", "rows", "[I", true)
  | 3 => ("VotedBank$Texts", "stays", "[I", true)
  | 4 => ("VotedBank$Texts", "behind", "[I", true)
  | 5 => ("VotedBank$Texts", "becomes", "[I", true)
  | _ => ("VotedBank$Texts", "lines", "[I", true)
def ix_y8 : Nat → FieldType := fun k => match k with
  | 0 => (.object "VotedBank$Law")
  | 1 => (.array .int)
  | 2 => (.array .int)
  | 3 => (.array .int)
  | 4 => (.array .int)
  | 5 => (.array .int)
  | _ => (.array .int)
def ix_T9 : u_T := fun k => match k with
  | 0 => ("VotedBank$World", "river", "LVotedBank$River;", true)
  | 1 => ("VotedBank$World", "book", "LVotedBank$Book;", true)
  | 2 => ("VotedBank$World", "texts", "LVotedBank$Texts;", true)
  | 3 => ("VotedBank$World", "bribes", "[I", true)
  | 4 => ("VotedBank$World", "seenLands", "[I", true)
  | _ => ("VotedBank$World", "seenCount", "I", false)
def ix_y9 : Nat → FieldType := fun k => match k with
  | 0 => (.object "VotedBank$River")
  | 1 => (.object "VotedBank$Book")
  | 2 => (.object "VotedBank$Texts")
  | 3 => (.array .int)
  | 4 => (.array .int)
  | _ => .int
def ix_T10 : u_T := fun k => match k with
  | 0 => ("VotedBank", "world", "LVotedBank$World;", true)
  | 1 => ("VotedBank", "kept", "LVotedBank$World;", true)
  | 2 => ("VotedBank", "past", "LVotedBank$Past;", true)
  | 3 => ("VotedBank", "tape", "LVotedBank$Tape;", true)
  | 4 => ("VotedBank", "parser", "LVotedBank$Parser;", true)
  | 5 => ("VotedBank", "crossing", "LVotedBank$Crossing;", true)
  | 6 => ("VotedBank", "poll", "LVotedBank$Poll;", true)
  | _ => ("VotedBank", "imageTaken", "Z", false)
def ix_y10 : Nat → FieldType := fun k => match k with
  | 0 => (.object "VotedBank$World")
  | 1 => (.object "VotedBank$World")
  | 2 => (.object "VotedBank$Past")
  | 3 => (.object "VotedBank$Tape")
  | 4 => (.object "VotedBank$Parser")
  | 5 => (.object "VotedBank$Crossing")
  | 6 => (.object "VotedBank$Poll")
  | _ => .boolean
def ix_T11 : u_T := fun k => match k with
  | 0 => ("VotedBankModel", "told", "I", false)
  | 1 => ("VotedBankModel", "now", "[I", true)
  | 2 => ("VotedBankModel", "rows", "[I", true)
  | 3 => ("VotedBankModel", "undoable", "I", false)
  | 4 => ("VotedBankModel", "waiting", "[I", true)
  | 5 => ("VotedBankModel", "isThought", "Z", false)
  | 6 => ("VotedBankModel", "stream", "I", false)
  | 7 => ("VotedBankModel", "people", "I", false)
  | 8 => ("VotedBankModel", "child", "[I", true)
  | 9 => ("VotedBankModel", "talk", "[I", true)
  | 10 => ("VotedBankModel", "firm", "[I", true)
  | 11 => ("VotedBankModel", "book", "[I", true)
  | 12 => ("VotedBankModel", "tape", "[I", true)
  | 13 => ("VotedBankModel", "taped", "I", false)
  | 14 => ("VotedBankModel", "spot", "I", false)
  | 15 => ("VotedBankModel", "from", "I", false)
  | 16 => ("VotedBankModel", "token", "I", false)
  | 17 => ("VotedBankModel", "value", "I", false)
  | 18 => ("VotedBankModel", "words", "[I", true)
  | 19 => ("VotedBankModel", "lineMany", "[I", true)
  | 20 => ("VotedBankModel", "lineWord", "[I", true)
  | 21 => ("VotedBankModel", "lineFrom", "[I", true)
  | 22 => ("VotedBankModel", "lineWhen", "[I", true)
  | 23 => ("VotedBankModel", "lineTo", "[I", true)
  | 24 => ("VotedBankModel", "op", "[I", true)
  | 25 => ("VotedBankModel", "arg", "[I", true)
  | 26 => ("VotedBankModel", "which", "I", false)
  | 27 => ("VotedBankModel", "codes", "I", false)
  | 28 => ("VotedBankModel", "open", "I", false)
  | 29 => ("VotedBankModel", "pending", "[I", true)
  | 30 => ("VotedBankModel", "pendings", "I", false)
  | 31 => ("VotedBankModel", "readFault", "I", false)
  | 32 => ("VotedBankModel", "readPlace", "I", false)
  | 33 => ("VotedBankModel", "faultKind", "I", false)
  | 34 => ("VotedBankModel", "faultPlace", "I", false)
  | 35 => ("VotedBankModel", "earMany", "I", false)
  | 36 => ("VotedBankModel", "ears", "[I", true)
  | 37 => ("VotedBankModel", "logMany", "I", false)
  | 38 => ("VotedBankModel", "logged", "[I", true)
  | 39 => ("VotedBankModel", "seasonMany", "I", false)
  | 40 => ("VotedBankModel", "seasons", "[I", true)
  | 41 => ("VotedBankModel", "asked", "[I", true)
  | 42 => ("VotedBankModel", "stack", "[I", true)
  | 43 => ("VotedBankModel", "turnings", "I", false)
  | 44 => ("VotedBankModel", "laid", "[I", true)
  | 45 => ("VotedBankModel", "lays", "[I", true)
  | 46 => ("VotedBankModel", "beaten", "[I", true)
  | 47 => ("VotedBankModel", "seenMany", "I", false)
  | 48 => ("VotedBankModel", "seenLand", "[I", true)
  | 49 => ("VotedBankModel", "bribeBut", "[I", true)
  | 50 => ("VotedBankModel", "isTaking", "Z", false)
  | 51 => ("VotedBankModel", "hasImage", "Z", false)
  | 52 => ("VotedBankModel", "keptAt", "I", false)
  | _ => ("VotedBankModel", "images", "[I", true)
def ix_y11 : Nat → FieldType := fun k => match k with
  | 0 => .int
  | 1 => (.array .int)
  | 2 => (.array .int)
  | 3 => .int
  | 4 => (.array .int)
  | 5 => .boolean
  | 6 => .int
  | 7 => .int
  | 8 => (.array .int)
  | 9 => (.array .int)
  | 10 => (.array .int)
  | 11 => (.array .int)
  | 12 => (.array .int)
  | 13 => .int
  | 14 => .int
  | 15 => .int
  | 16 => .int
  | 17 => .int
  | 18 => (.array .int)
  | 19 => (.array .int)
  | 20 => (.array .int)
  | 21 => (.array .int)
  | 22 => (.array .int)
  | 23 => (.array .int)
  | 24 => (.array .int)
  | 25 => (.array .int)
  | 26 => .int
  | 27 => .int
  | 28 => .int
  | 29 => (.array .int)
  | 30 => .int
  | 31 => .int
  | 32 => .int
  | 33 => .int
  | 34 => .int
  | 35 => .int
  | 36 => (.array .int)
  | 37 => .int
  | 38 => (.array .int)
  | 39 => .int
  | 40 => (.array .int)
  | 41 => (.array .int)
  | 42 => (.array .int)
  | 43 => .int
  | 44 => (.array .int)
  | 45 => (.array .int)
  | 46 => (.array .int)
  | 47 => .int
  | 48 => (.array .int)
  | 49 => (.array .int)
  | 50 => .boolean
  | 51 => .boolean
  | 52 => .int
  | _ => (.array .int)
def ix_cls : List vw_C := [("VotedBank$Book", ix_T0, 2), ("VotedBank$Crossing", ix_T1, 8), ("VotedBank$Law", ix_T2, 9), ("VotedBank$Parser", ix_T3, 5), ("VotedBank$Past", ix_T4, 4), ("VotedBank$Poll", ix_T5, 7), ("VotedBank$River", ix_T6, 14), ("VotedBank$Tape", ix_T7, 10), ("VotedBank$Texts", ix_T8, 7), ("VotedBank$World", ix_T9, 6), ("VotedBank", ix_T10, 8), ("VotedBankModel", ix_T11, 54)]
def ix_ty : Nat → Nat → FieldType
  | 0 => ix_y0
  | 1 => ix_y1
  | 2 => ix_y2
  | 3 => ix_y3
  | 4 => ix_y4
  | 5 => ix_y5
  | 6 => ix_y6
  | 7 => ix_y7
  | 8 => ix_y8
  | 9 => ix_y9
  | 10 => ix_y10
  | _ => ix_y11
def ix_isRef : FieldType → Bool
  | .object _ => true
  | .array _ => true
  | _ => false
theorem ix_mem_p {ws : List Cond} (ps : List Nat) (h : ws = ps.filterMap (fun i => lw_tbl[i]?)) (hu : ∀ w ∈ ws, ix_use w = true) : ∀ w ∈ ws, w ∈ ix_tb := by
  intro w hw
  have hu := hu w hw
  rw [h] at hw
  obtain ⟨i, -, hi⟩ := List.mem_filterMap.mp hw
  exact List.mem_filter.mpr ⟨List.mem_of_getElem? hi, hu⟩
theorem ix_cw0 : ∀ w ∈ u_ws "VotedBank$Book" ix_T0 2, w ∈ ix_tb := ix_mem_p [265, 267] (by decide +kernel) (by decide +kernel)
theorem ix_ci0 : ∀ w ∈ ([.instantiable "VotedBank$Book" 2, .initialized "VotedBank$Book"] : List Cond), w ∈ ix_tb := ix_mem_p [256, 140] (by decide +kernel) (by decide +kernel)
theorem ix_ck0 : (∀ k, k < 2 → parseFieldDescriptor (ix_T0 k).2.2.1 = some (ix_y0 k)) ∧ (∀ a, a < 2 → ∀ b, b < 2 → a ≠ b → (ix_T0 a).2.1 ≠ (ix_T0 b).2.1) ∧ (ix_kinds 0).length = 2 ∧ (∀ k, k < 2 → (ix_T0 k).1 = "VotedBank$Book") ∧ ∀ k, k < 2 → (ix_n (ix_kinds 0) k = some 0 ∧ ix_y0 k = .int) ∨ (ix_n (ix_kinds 0) k = some 1 ∧ ix_y0 k = .boolean) ∨ (ix_n (ix_kinds 0) k = some 2 ∧ ix_isRef (ix_y0 k) = true) := by decide +kernel
theorem ix_cw1 : ∀ w ∈ u_ws "VotedBank$Crossing" ix_T1 8, w ∈ ix_tb := ix_mem_p [496, 498, 500, 502, 504, 506, 508, 510] (by decide +kernel) (by decide +kernel)
theorem ix_ci1 : ∀ w ∈ ([.instantiable "VotedBank$Crossing" 8, .initialized "VotedBank$Crossing"] : List Cond), w ∈ ix_tb := ix_mem_p [479, 147] (by decide +kernel) (by decide +kernel)
theorem ix_ck1 : (∀ k, k < 8 → parseFieldDescriptor (ix_T1 k).2.2.1 = some (ix_y1 k)) ∧ (∀ a, a < 8 → ∀ b, b < 8 → a ≠ b → (ix_T1 a).2.1 ≠ (ix_T1 b).2.1) ∧ (ix_kinds 1).length = 8 ∧ (∀ k, k < 8 → (ix_T1 k).1 = "VotedBank$Crossing") ∧ ∀ k, k < 8 → (ix_n (ix_kinds 1) k = some 0 ∧ ix_y1 k = .int) ∨ (ix_n (ix_kinds 1) k = some 1 ∧ ix_y1 k = .boolean) ∨ (ix_n (ix_kinds 1) k = some 2 ∧ ix_isRef (ix_y1 k) = true) := by decide +kernel
theorem ix_cw2 : ∀ w ∈ u_ws "VotedBank$Law" ix_T2 9, w ∈ ix_tb := ix_mem_p [292, 294, 296, 298, 300, 302, 304, 306, 308] (by decide +kernel) (by decide +kernel)
theorem ix_ci2 : ∀ w ∈ ([.instantiable "VotedBank$Law" 9, .initialized "VotedBank$Law"] : List Cond), w ∈ ix_tb := ix_mem_p [277, 142] (by decide +kernel) (by decide +kernel)
theorem ix_ck2 : (∀ k, k < 9 → parseFieldDescriptor (ix_T2 k).2.2.1 = some (ix_y2 k)) ∧ (∀ a, a < 9 → ∀ b, b < 9 → a ≠ b → (ix_T2 a).2.1 ≠ (ix_T2 b).2.1) ∧ (ix_kinds 2).length = 9 ∧ (∀ k, k < 9 → (ix_T2 k).1 = "VotedBank$Law") ∧ ∀ k, k < 9 → (ix_n (ix_kinds 2) k = some 0 ∧ ix_y2 k = .int) ∨ (ix_n (ix_kinds 2) k = some 1 ∧ ix_y2 k = .boolean) ∨ (ix_n (ix_kinds 2) k = some 2 ∧ ix_isRef (ix_y2 k) = true) := by decide +kernel
theorem ix_cw3 : ∀ w ∈ u_ws "VotedBank$Parser" ix_T3 5, w ∈ ix_tb := ix_mem_p [467, 469, 471, 473, 475] (by decide +kernel) (by decide +kernel)
theorem ix_ci3 : ∀ w ∈ ([.instantiable "VotedBank$Parser" 5, .initialized "VotedBank$Parser"] : List Cond), w ∈ ix_tb := ix_mem_p [452, 146] (by decide +kernel) (by decide +kernel)
theorem ix_ck3 : (∀ k, k < 5 → parseFieldDescriptor (ix_T3 k).2.2.1 = some (ix_y3 k)) ∧ (∀ a, a < 5 → ∀ b, b < 5 → a ≠ b → (ix_T3 a).2.1 ≠ (ix_T3 b).2.1) ∧ (ix_kinds 3).length = 5 ∧ (∀ k, k < 5 → (ix_T3 k).1 = "VotedBank$Parser") ∧ ∀ k, k < 5 → (ix_n (ix_kinds 3) k = some 0 ∧ ix_y3 k = .int) ∨ (ix_n (ix_kinds 3) k = some 1 ∧ ix_y3 k = .boolean) ∨ (ix_n (ix_kinds 3) k = some 2 ∧ ix_isRef (ix_y3 k) = true) := by decide +kernel
theorem ix_cw4 : ∀ w ∈ u_ws "VotedBank$Past" ix_T4 4, w ∈ ix_tb := ix_mem_p [400, 402, 404, 406] (by decide +kernel) (by decide +kernel)
theorem ix_ci4 : ∀ w ∈ ([.instantiable "VotedBank$Past" 4, .initialized "VotedBank$Past"] : List Cond), w ∈ ix_tb := ix_mem_p [387, 144] (by decide +kernel) (by decide +kernel)
theorem ix_ck4 : (∀ k, k < 4 → parseFieldDescriptor (ix_T4 k).2.2.1 = some (ix_y4 k)) ∧ (∀ a, a < 4 → ∀ b, b < 4 → a ≠ b → (ix_T4 a).2.1 ≠ (ix_T4 b).2.1) ∧ (ix_kinds 4).length = 4 ∧ (∀ k, k < 4 → (ix_T4 k).1 = "VotedBank$Past") ∧ ∀ k, k < 4 → (ix_n (ix_kinds 4) k = some 0 ∧ ix_y4 k = .int) ∨ (ix_n (ix_kinds 4) k = some 1 ∧ ix_y4 k = .boolean) ∨ (ix_n (ix_kinds 4) k = some 2 ∧ ix_isRef (ix_y4 k) = true) := by decide +kernel
theorem ix_cw5 : ∀ w ∈ u_ws "VotedBank$Poll" ix_T5 7, w ∈ ix_tb := ix_mem_p [528, 530, 532, 534, 536, 538, 540] (by decide +kernel) (by decide +kernel)
theorem ix_ci5 : ∀ w ∈ ([.instantiable "VotedBank$Poll" 7, .initialized "VotedBank$Poll"] : List Cond), w ∈ ix_tb := ix_mem_p [514, 148] (by decide +kernel) (by decide +kernel)
theorem ix_ck5 : (∀ k, k < 7 → parseFieldDescriptor (ix_T5 k).2.2.1 = some (ix_y5 k)) ∧ (∀ a, a < 7 → ∀ b, b < 7 → a ≠ b → (ix_T5 a).2.1 ≠ (ix_T5 b).2.1) ∧ (ix_kinds 5).length = 7 ∧ (∀ k, k < 7 → (ix_T5 k).1 = "VotedBank$Poll") ∧ ∀ k, k < 7 → (ix_n (ix_kinds 5) k = some 0 ∧ ix_y5 k = .int) ∨ (ix_n (ix_kinds 5) k = some 1 ∧ ix_y5 k = .boolean) ∨ (ix_n (ix_kinds 5) k = some 2 ∧ ix_isRef (ix_y5 k) = true) := by decide +kernel
theorem ix_cw6 : ∀ w ∈ u_ws "VotedBank$River" ix_T6 14, w ∈ ix_tb := ix_mem_p [225, 227, 229, 231, 233, 235, 237, 239, 241, 243, 245, 247, 249, 251] (by decide +kernel) (by decide +kernel)
theorem ix_ci6 : ∀ w ∈ ([.instantiable "VotedBank$River" 14, .initialized "VotedBank$River"] : List Cond), w ∈ ix_tb := ix_mem_p [173, 139] (by decide +kernel) (by decide +kernel)
theorem ix_ck6 : (∀ k, k < 14 → parseFieldDescriptor (ix_T6 k).2.2.1 = some (ix_y6 k)) ∧ (∀ a, a < 14 → ∀ b, b < 14 → a ≠ b → (ix_T6 a).2.1 ≠ (ix_T6 b).2.1) ∧ (ix_kinds 6).length = 14 ∧ (∀ k, k < 14 → (ix_T6 k).1 = "VotedBank$River") ∧ ∀ k, k < 14 → (ix_n (ix_kinds 6) k = some 0 ∧ ix_y6 k = .int) ∨ (ix_n (ix_kinds 6) k = some 1 ∧ ix_y6 k = .boolean) ∨ (ix_n (ix_kinds 6) k = some 2 ∧ ix_isRef (ix_y6 k) = true) := by decide +kernel
theorem ix_cw7 : ∀ w ∈ u_ws "VotedBank$Tape" ix_T7 10, w ∈ ix_tb := ix_mem_p [429, 431, 433, 435, 437, 439, 441, 443, 445, 447] (by decide +kernel) (by decide +kernel)
theorem ix_ci7 : ∀ w ∈ ([.instantiable "VotedBank$Tape" 10, .initialized "VotedBank$Tape"] : List Cond), w ∈ ix_tb := ix_mem_p [410, 145] (by decide +kernel) (by decide +kernel)
theorem ix_ck7 : (∀ k, k < 10 → parseFieldDescriptor (ix_T7 k).2.2.1 = some (ix_y7 k)) ∧ (∀ a, a < 10 → ∀ b, b < 10 → a ≠ b → (ix_T7 a).2.1 ≠ (ix_T7 b).2.1) ∧ (ix_kinds 7).length = 10 ∧ (∀ k, k < 10 → (ix_T7 k).1 = "VotedBank$Tape") ∧ ∀ k, k < 10 → (ix_n (ix_kinds 7) k = some 0 ∧ ix_y7 k = .int) ∨ (ix_n (ix_kinds 7) k = some 1 ∧ ix_y7 k = .boolean) ∨ (ix_n (ix_kinds 7) k = some 2 ∧ ix_isRef (ix_y7 k) = true) := by decide +kernel
theorem ix_cw8 : ∀ w ∈ u_ws "VotedBank$Texts" ix_T8 7, w ∈ ix_tb := ix_mem_p [336, 338, 340, 342, 344, 346, 348] (by decide +kernel) (by decide +kernel)
theorem ix_ci8 : ∀ w ∈ ([.instantiable "VotedBank$Texts" 7, .initialized "VotedBank$Texts"] : List Cond), w ∈ ix_tb := ix_mem_p [271, 141] (by decide +kernel) (by decide +kernel)
theorem ix_ck8 : (∀ k, k < 7 → parseFieldDescriptor (ix_T8 k).2.2.1 = some (ix_y8 k)) ∧ (∀ a, a < 7 → ∀ b, b < 7 → a ≠ b → (ix_T8 a).2.1 ≠ (ix_T8 b).2.1) ∧ (ix_kinds 8).length = 7 ∧ (∀ k, k < 7 → (ix_T8 k).1 = "VotedBank$Texts") ∧ ∀ k, k < 7 → (ix_n (ix_kinds 8) k = some 0 ∧ ix_y8 k = .int) ∨ (ix_n (ix_kinds 8) k = some 1 ∧ ix_y8 k = .boolean) ∨ (ix_n (ix_kinds 8) k = some 2 ∧ ix_isRef (ix_y8 k) = true) := by decide +kernel
theorem ix_cw9 : ∀ w ∈ u_ws "VotedBank$World" ix_T9 6, w ∈ ix_tb := ix_mem_p [373, 375, 377, 379, 381, 383] (by decide +kernel) (by decide +kernel)
theorem ix_ci9 : ∀ w ∈ ([.instantiable "VotedBank$World" 6, .initialized "VotedBank$World"] : List Cond), w ∈ ix_tb := ix_mem_p [167, 138] (by decide +kernel) (by decide +kernel)
theorem ix_ck9 : (∀ k, k < 6 → parseFieldDescriptor (ix_T9 k).2.2.1 = some (ix_y9 k)) ∧ (∀ a, a < 6 → ∀ b, b < 6 → a ≠ b → (ix_T9 a).2.1 ≠ (ix_T9 b).2.1) ∧ (ix_kinds 9).length = 6 ∧ (∀ k, k < 6 → (ix_T9 k).1 = "VotedBank$World") ∧ ∀ k, k < 6 → (ix_n (ix_kinds 9) k = some 0 ∧ ix_y9 k = .int) ∨ (ix_n (ix_kinds 9) k = some 1 ∧ ix_y9 k = .boolean) ∨ (ix_n (ix_kinds 9) k = some 2 ∧ ix_isRef (ix_y9 k) = true) := by decide +kernel
theorem ix_cw10 : ∀ w ∈ u_ws "VotedBank" ix_T10 8, w ∈ ix_tb := ix_mem_p [551, 553, 555, 557, 559, 561, 563, 565] (by decide +kernel) (by decide +kernel)
theorem ix_ci10 : ∀ w ∈ ([.instantiable "VotedBank" 8, .initialized "VotedBank"] : List Cond), w ∈ ix_tb := ix_mem_p [159, 137] (by decide +kernel) (by decide +kernel)
theorem ix_ck10 : (∀ k, k < 8 → parseFieldDescriptor (ix_T10 k).2.2.1 = some (ix_y10 k)) ∧ (∀ a, a < 8 → ∀ b, b < 8 → a ≠ b → (ix_T10 a).2.1 ≠ (ix_T10 b).2.1) ∧ (ix_kinds 10).length = 8 ∧ (∀ k, k < 8 → (ix_T10 k).1 = "VotedBank") ∧ ∀ k, k < 8 → (ix_n (ix_kinds 10) k = some 0 ∧ ix_y10 k = .int) ∨ (ix_n (ix_kinds 10) k = some 1 ∧ ix_y10 k = .boolean) ∨ (ix_n (ix_kinds 10) k = some 2 ∧ ix_isRef (ix_y10 k) = true) := by decide +kernel
theorem ix_cw11 : ∀ w ∈ u_ws "VotedBankModel" ix_T11 54, w ∈ ix_tb := ix_mem_p [1356, 1358, 1360, 1362, 1364, 1366, 1368, 1370, 1372, 1374, 1376, 1378, 1380, 1382, 1384, 1386, 1388, 1390, 1392, 1394, 1396, 1398, 1400, 1402, 1404, 1406, 1408, 1410, 1412, 1414, 1416, 1418, 1420, 1422, 1424, 1426, 1428, 1430, 1432, 1434, 1436, 1438, 1440, 1442, 1444, 1446, 1448, 1450, 1452, 1454, 1456, 1458, 1460, 1462] (by decide +kernel) (by decide +kernel)
theorem ix_ci11 : ∀ w ∈ ([.instantiable "VotedBankModel" 54, .initialized "VotedBankModel"] : List Cond), w ∈ ix_tb := ix_mem_p [1297, 149] (by decide +kernel) (by decide +kernel)
theorem ix_ck11 : (∀ k, k < 54 → parseFieldDescriptor (ix_T11 k).2.2.1 = some (ix_y11 k)) ∧ (∀ a, a < 54 → ∀ b, b < 54 → a ≠ b → (ix_T11 a).2.1 ≠ (ix_T11 b).2.1) ∧ (ix_kinds 11).length = 54 ∧ (∀ k, k < 54 → (ix_T11 k).1 = "VotedBankModel") ∧ ∀ k, k < 54 → (ix_n (ix_kinds 11) k = some 0 ∧ ix_y11 k = .int) ∨ (ix_n (ix_kinds 11) k = some 1 ∧ ix_y11 k = .boolean) ∨ (ix_n (ix_kinds 11) k = some 2 ∧ ix_isRef (ix_y11 k) = true) := by decide +kernel
/-- what holds of a class by its number -/
def ix_CO (ci : Nat) (r : vw_C) : Prop := (∀ w ∈ u_ws r.1 r.2.1 r.2.2, w ∈ ix_tb) ∧ (∀ w ∈ ([.instantiable r.1 r.2.2, .initialized r.1] : List Cond), w ∈ ix_tb) ∧ (∀ k, k < r.2.2 → parseFieldDescriptor (r.2.1 k).2.2.1 = some (ix_ty ci k)) ∧ (∀ a, a < r.2.2 → ∀ b, b < r.2.2 → a ≠ b → (r.2.1 a).2.1 ≠ (r.2.1 b).2.1) ∧ (ix_kinds ci).length = r.2.2 ∧ (∀ k, k < r.2.2 → (r.2.1 k).1 = r.1) ∧
  ∀ k, k < r.2.2 → (ix_n (ix_kinds ci) k = some 0 ∧ ix_ty ci k = .int) ∨ (ix_n (ix_kinds ci) k = some 1 ∧ ix_ty ci k = .boolean) ∨ (ix_n (ix_kinds ci) k = some 2 ∧ ix_isRef (ix_ty ci k) = true)
theorem ix_cls_ok (ci : Nat) (r : vw_C) (h : ix_n ix_cls ci = some r) : ix_CO ci r := by
  rcases ci with _ | _ | _ | _ | _ | _ | _ | _ | _ | _ | _ | _ | n
  · cases h; exact ⟨ix_cw0, ix_ci0, ix_ck0⟩
  · cases h; exact ⟨ix_cw1, ix_ci1, ix_ck1⟩
  · cases h; exact ⟨ix_cw2, ix_ci2, ix_ck2⟩
  · cases h; exact ⟨ix_cw3, ix_ci3, ix_ck3⟩
  · cases h; exact ⟨ix_cw4, ix_ci4, ix_ck4⟩
  · cases h; exact ⟨ix_cw5, ix_ci5, ix_ck5⟩
  · cases h; exact ⟨ix_cw6, ix_ci6, ix_ck6⟩
  · cases h; exact ⟨ix_cw7, ix_ci7, ix_ck7⟩
  · cases h; exact ⟨ix_cw8, ix_ci8, ix_ck8⟩
  · cases h; exact ⟨ix_cw9, ix_ci9, ix_ck9⟩
  · cases h; exact ⟨ix_cw10, ix_ci10, ix_ck10⟩
  · cases h; exact ⟨ix_cw11, ix_ci11, ix_ck11⟩
  · cases h
theorem ix_glob : ∀ w ∈ ([.native arraycopyName, .static arraycopyName, .initialized "java/lang/System", .instanceMethod objectInit, .code objectInit ⟨#[0xb1]⟩ 1 none, .arrayClass .int, .arrayClass .byte, .arrayOver (.object "VotedBank$River")] : List Cond), w ∈ ix_tb := ix_mem_p [635, 634, 150, 164, 165, 254, 450, 393] (by decide +kernel) (by decide +kernel)
