def F_Sp : u_T := fun k => match k with
  | 0 => ("SpaceCycles", "lines", "LSpaceCycles$Lines;", true)
  | 1 => ("SpaceCycles", "flood", "LSpaceCycles$Flood;", true)
  | 2 => ("SpaceCycles", "net", "LSpaceCycles$Net;", true)
  | 3 => ("SpaceCycles", "loops", "LSpaceCycles$Rings;", true)
  | 4 => ("SpaceCycles", "common", "LSpaceCycles$Common;", true)
  | 5 => ("SpaceCycles", "names", "LSpaceCycles$Names;", true)
  | 6 => ("SpaceCycles", "ways", "LSpaceCycles$Ways;", true)
  | 7 => ("SpaceCycles", "marked", "[Z", true)
  | 8 => ("SpaceCycles", "now", "LSpaceCycles$Grid;", false)
  | 9 => ("SpaceCycles", "before", "LSpaceCycles$Grid;", false)
  | 10 => ("SpaceCycles", "runs", "I", false)
  | _ => ("SpaceCycles", "stale", "Z", false)
def t_Sp : Nat → FieldType := fun k => match k with
  | 0 => .object "SpaceCycles$Lines"
  | 1 => .object "SpaceCycles$Flood"
  | 2 => .object "SpaceCycles$Net"
  | 3 => .object "SpaceCycles$Rings"
  | 4 => .object "SpaceCycles$Common"
  | 5 => .object "SpaceCycles$Names"
  | 6 => .object "SpaceCycles$Ways"
  | 7 => .array .boolean
  | 8 => .object "SpaceCycles$Grid"
  | 9 => .object "SpaceCycles$Grid"
  | 10 => .int
  | _ => .boolean
theorem n_Sp : ∀ a, a < 12 → ∀ b, b < 12 → a ≠ b → (F_Sp a).2.1 ≠ (F_Sp b).2.1 := by decide +kernel
theorem t_Sp_ok : ∀ k, k < 12 → parseFieldDescriptor (F_Sp k).2.2.1 = some (t_Sp k) := by decide +kernel
theorem i_Sp : ∀ w ∈ u_ws "SpaceCycles" F_Sp 12, w ∈ gl := gl_p [334, 336, 338, 340, 342, 344, 346, 348, 350, 352, 354, 356] (by decide +kernel) (by decide +kernel)
def F_Li : u_T := fun k => match k with
  | 0 => ("SpaceCycles$Lines", "lowX", "[I", true)
  | 1 => ("SpaceCycles$Lines", "lowY", "[I", true)
  | 2 => ("SpaceCycles$Lines", "highX", "[I", true)
  | 3 => ("SpaceCycles$Lines", "highY", "[I", true)
  | 4 => ("SpaceCycles$Lines", "thickness", "[I", true)
  | 5 => ("SpaceCycles$Lines", "doors", "[I", true)
  | 6 => ("SpaceCycles$Lines", "doorFrom", "[I", true)
  | 7 => ("SpaceCycles$Lines", "doorTo", "[I", true)
  | _ => ("SpaceCycles$Lines", "count", "I", false)
def t_Li : Nat → FieldType := fun k => match k with
  | 0 => .array .int
  | 1 => .array .int
  | 2 => .array .int
  | 3 => .array .int
  | 4 => .array .int
  | 5 => .array .int
  | 6 => .array .int
  | 7 => .array .int
  | _ => .int
theorem n_Li : ∀ a, a < 9 → ∀ b, b < 9 → a ≠ b → (F_Li a).2.1 ≠ (F_Li b).2.1 := by decide +kernel
theorem t_Li_ok : ∀ k, k < 9 → parseFieldDescriptor (F_Li k).2.2.1 = some (t_Li k) := by decide +kernel
theorem i_Li : ∀ w ∈ u_ws "SpaceCycles$Lines" F_Li 9, w ∈ gl := gl_p [77, 79, 81, 83, 85, 87, 89, 91, 93] (by decide +kernel) (by decide +kernel)
def F_Fl : u_T := fun k => match k with
  | 0 => ("SpaceCycles$Flood", "walls", "[I", true)
  | 1 => ("SpaceCycles$Flood", "waiting", "[I", true)
  | _ => ("SpaceCycles$Flood", "waits", "I", false)
def t_Fl : Nat → FieldType := fun k => match k with
  | 0 => .array .int
  | 1 => .array .int
  | _ => .int
theorem n_Fl : ∀ a, a < 3 → ∀ b, b < 3 → a ≠ b → (F_Fl a).2.1 ≠ (F_Fl b).2.1 := by decide +kernel
theorem t_Fl_ok : ∀ k, k < 3 → parseFieldDescriptor (F_Fl k).2.2.1 = some (t_Fl k) := by decide +kernel
theorem i_Fl : ∀ w ∈ u_ws "SpaceCycles$Flood" F_Fl 3, w ∈ gl := gl_p [106, 108, 110] (by decide +kernel) (by decide +kernel)
def F_Ne : u_T := fun k => match k with
  | 0 => ("SpaceCycles$Net", "pointX", "[I", true)
  | 1 => ("SpaceCycles$Net", "pointY", "[I", true)
  | 2 => ("SpaceCycles$Net", "looseSides", "[I", true)
  | 3 => ("SpaceCycles$Net", "points", "I", false)
  | 4 => ("SpaceCycles$Net", "pieces", "I", false)
  | 5 => ("SpaceCycles$Net", "looseEnds", "I", false)
  | 6 => ("SpaceCycles$Net", "sidesOut", "[I", true)
  | 7 => ("SpaceCycles$Net", "pieceLine", "[I", true)
  | 8 => ("SpaceCycles$Net", "begins", "[I", true)
  | 9 => ("SpaceCycles$Net", "directions", "[I", true)
  | 10 => ("SpaceCycles$Net", "leftSpaces", "[I", true)
  | 11 => ("SpaceCycles$Net", "weights", "[I", true)
  | _ => ("SpaceCycles$Net", "pointAt", "[I", true)
def t_Ne : Nat → FieldType := fun k => match k with
  | 0 => .array .int
  | 1 => .array .int
  | 2 => .array .int
  | 3 => .int
  | 4 => .int
  | 5 => .int
  | 6 => .array .int
  | 7 => .array .int
  | 8 => .array .int
  | 9 => .array .int
  | 10 => .array .int
  | 11 => .array .int
  | _ => .array .int
theorem n_Ne : ∀ a, a < 13 → ∀ b, b < 13 → a ≠ b → (F_Ne a).2.1 ≠ (F_Ne b).2.1 := by decide +kernel
theorem t_Ne_ok : ∀ k, k < 13 → parseFieldDescriptor (F_Ne k).2.2.1 = some (t_Ne k) := by decide +kernel
theorem i_Ne : ∀ w ∈ u_ws "SpaceCycles$Net" F_Ne 13, w ∈ gl := gl_p [143, 145, 147, 149, 151, 153, 155, 157, 159, 161, 163, 165, 167] (by decide +kernel) (by decide +kernel)
def F_Ri : u_T := fun k => match k with
  | 0 => ("SpaceCycles$Rings", "order", "[I", true)
  | 1 => ("SpaceCycles$Rings", "gone", "[Z", true)
  | 2 => ("SpaceCycles$Rings", "starts", "[I", true)
  | 3 => ("SpaceCycles$Rings", "spaces", "[I", true)
  | 4 => ("SpaceCycles$Rings", "count", "I", false)
  | _ => ("SpaceCycles$Rings", "filled", "I", false)
def t_Ri : Nat → FieldType := fun k => match k with
  | 0 => .array .int
  | 1 => .array .boolean
  | 2 => .array .int
  | 3 => .array .int
  | 4 => .int
  | _ => .int
theorem n_Ri : ∀ a, a < 6 → ∀ b, b < 6 → a ≠ b → (F_Ri a).2.1 ≠ (F_Ri b).2.1 := by decide +kernel
theorem t_Ri_ok : ∀ k, k < 6 → parseFieldDescriptor (F_Ri k).2.2.1 = some (t_Ri k) := by decide +kernel
theorem i_Ri : ∀ w ∈ u_ws "SpaceCycles$Rings" F_Ri 6, w ∈ gl := gl_p [182, 184, 186, 188, 190, 192] (by decide +kernel) (by decide +kernel)
def F_Co : u_T := fun k => match k with
  | 0 => ("SpaceCycles$Common", "columns", "LSpaceCycles$Strips;", true)
  | 1 => ("SpaceCycles$Common", "rows", "LSpaceCycles$Strips;", true)
  | 2 => ("SpaceCycles$Common", "areas", "[I", true)
  | _ => ("SpaceCycles$Common", "known", "Z", false)
def t_Co : Nat → FieldType := fun k => match k with
  | 0 => .object "SpaceCycles$Strips"
  | 1 => .object "SpaceCycles$Strips"
  | 2 => .array .int
  | _ => .boolean
theorem n_Co : ∀ a, a < 4 → ∀ b, b < 4 → a ≠ b → (F_Co a).2.1 ≠ (F_Co b).2.1 := by decide +kernel
theorem t_Co_ok : ∀ k, k < 4 → parseFieldDescriptor (F_Co k).2.2.1 = some (t_Co k) := by decide +kernel
theorem i_Co : ∀ w ∈ u_ws "SpaceCycles$Common" F_Co 4, w ∈ gl := gl_p [229, 231, 233, 235] (by decide +kernel) (by decide +kernel)
def F_Na : u_T := fun k => match k with
  | 0 => ("SpaceCycles$Names", "given", "[I", true)
  | 1 => ("SpaceCycles$Names", "passed", "[I", true)
  | _ => ("SpaceCycles$Names", "shares", "[I", true)
def t_Na : Nat → FieldType := fun k => match k with
  | 0 => .array .int
  | 1 => .array .int
  | _ => .array .int
theorem n_Na : ∀ a, a < 3 → ∀ b, b < 3 → a ≠ b → (F_Na a).2.1 ≠ (F_Na b).2.1 := by decide +kernel
theorem t_Na_ok : ∀ k, k < 3 → parseFieldDescriptor (F_Na k).2.2.1 = some (t_Na k) := by decide +kernel
theorem i_Na : ∀ w ∈ u_ws "SpaceCycles$Names" F_Na 3, w ∈ gl := gl_p [248, 250, 252] (by decide +kernel) (by decide +kernel)
def F_Wa : u_T := fun k => match k with
  | 0 => ("SpaceCycles$Ways", "far", "[I", true)
  | 1 => ("SpaceCycles$Ways", "open", "[I", true)
  | _ => ("SpaceCycles$Ways", "opens", "I", false)
def t_Wa : Nat → FieldType := fun k => match k with
  | 0 => .array .int
  | 1 => .array .int
  | _ => .int
theorem n_Wa : ∀ a, a < 3 → ∀ b, b < 3 → a ≠ b → (F_Wa a).2.1 ≠ (F_Wa b).2.1 := by decide +kernel
theorem t_Wa_ok : ∀ k, k < 3 → parseFieldDescriptor (F_Wa k).2.2.1 = some (t_Wa k) := by decide +kernel
theorem i_Wa : ∀ w ∈ u_ws "SpaceCycles$Ways" F_Wa 3, w ∈ gl := gl_p [264, 266, 268] (by decide +kernel) (by decide +kernel)
def F_Gr : u_T := fun k => match k with
  | 0 => ("SpaceCycles$Grid", "xs", "LSpaceCycles$Cuts;", true)
  | 1 => ("SpaceCycles$Grid", "ys", "LSpaceCycles$Cuts;", true)
  | 2 => ("SpaceCycles$Grid", "cells", "[I", true)
  | _ => ("SpaceCycles$Grid", "spaces", "I", false)
def t_Gr : Nat → FieldType := fun k => match k with
  | 0 => .object "SpaceCycles$Cuts"
  | 1 => .object "SpaceCycles$Cuts"
  | 2 => .array .int
  | _ => .int
theorem n_Gr : ∀ a, a < 4 → ∀ b, b < 4 → a ≠ b → (F_Gr a).2.1 ≠ (F_Gr b).2.1 := by decide +kernel
theorem t_Gr_ok : ∀ k, k < 4 → parseFieldDescriptor (F_Gr k).2.2.1 = some (t_Gr k) := by decide +kernel
theorem i_Gr : ∀ w ∈ u_ws "SpaceCycles$Grid" F_Gr 4, w ∈ gl := gl_p [313, 315, 317, 319] (by decide +kernel) (by decide +kernel)
def F_Cu : u_T := fun k => match k with
  | 0 => ("SpaceCycles$Cuts", "places", "[I", true)
  | _ => ("SpaceCycles$Cuts", "count", "I", false)
def t_Cu : Nat → FieldType := fun k => match k with
  | 0 => .array .int
  | _ => .int
theorem n_Cu : ∀ a, a < 2 → ∀ b, b < 2 → a ≠ b → (F_Cu a).2.1 ≠ (F_Cu b).2.1 := by decide +kernel
theorem t_Cu_ok : ∀ k, k < 2 → parseFieldDescriptor (F_Cu k).2.2.1 = some (t_Cu k) := by decide +kernel
theorem i_Cu : ∀ w ∈ u_ws "SpaceCycles$Cuts" F_Cu 2, w ∈ gl := gl_p [291, 293] (by decide +kernel) (by decide +kernel)
def F_St : u_T := fun k => match k with
  | 0 => ("SpaceCycles$Strips", "width", "[I", true)
  | 1 => ("SpaceCycles$Strips", "oldGap", "[I", true)
  | 2 => ("SpaceCycles$Strips", "newGap", "[I", true)
  | _ => ("SpaceCycles$Strips", "count", "I", false)
def t_St : Nat → FieldType := fun k => match k with
  | 0 => .array .int
  | 1 => .array .int
  | 2 => .array .int
  | _ => .int
theorem n_St : ∀ a, a < 4 → ∀ b, b < 4 → a ≠ b → (F_St a).2.1 ≠ (F_St b).2.1 := by decide +kernel
theorem t_St_ok : ∀ k, k < 4 → parseFieldDescriptor (F_St k).2.2.1 = some (t_St k) := by decide +kernel
theorem i_St : ∀ w ∈ u_ws "SpaceCycles$Strips" F_St 4, w ∈ gl := gl_p [216, 218, 220, 222] (by decide +kernel) (by decide +kernel)
def F_Mo : u_T := fun k => match k with
  | 0 => ("SpaceCyclesModel", "code", "I", false)
  | 1 => ("SpaceCyclesModel", "isFlat", "[Z", true)
  | 2 => ("SpaceCyclesModel", "across", "[I", true)
  | 3 => ("SpaceCyclesModel", "lows", "[I", true)
  | 4 => ("SpaceCyclesModel", "highs", "[I", true)
  | 5 => ("SpaceCyclesModel", "thick", "[I", true)
  | 6 => ("SpaceCyclesModel", "lines", "I", false)
  | 7 => ("SpaceCyclesModel", "doorCounts", "[I", true)
  | 8 => ("SpaceCyclesModel", "doorFrom", "[I", true)
  | 9 => ("SpaceCyclesModel", "doorTo", "[I", true)
  | 10 => ("SpaceCyclesModel", "isFresh", "Z", false)
  | 11 => ("SpaceCyclesModel", "hasRun", "Z", false)
  | 12 => ("SpaceCyclesModel", "runs", "I", false)
  | 13 => ("SpaceCyclesModel", "xs", "[I", true)
  | 14 => ("SpaceCyclesModel", "ys", "[I", true)
  | 15 => ("SpaceCyclesModel", "nx", "I", false)
  | 16 => ("SpaceCyclesModel", "ny", "I", false)
  | 17 => ("SpaceCyclesModel", "labels", "[I", true)
  | 18 => ("SpaceCyclesModel", "spaces", "I", false)
  | 19 => ("SpaceCyclesModel", "oldXs", "[I", true)
  | 20 => ("SpaceCyclesModel", "oldYs", "[I", true)
  | 21 => ("SpaceCyclesModel", "oldNx", "I", false)
  | 22 => ("SpaceCyclesModel", "oldNy", "I", false)
  | 23 => ("SpaceCyclesModel", "oldLabels", "[I", true)
  | 24 => ("SpaceCyclesModel", "oldSpaces", "I", false)
  | 25 => ("SpaceCyclesModel", "names", "[I", true)
  | 26 => ("SpaceCyclesModel", "oldNames", "[I", true)
  | 27 => ("SpaceCyclesModel", "wanted", "[I", true)
  | 28 => ("SpaceCyclesModel", "common", "[I", true)
  | 29 => ("SpaceCyclesModel", "flatEdges", "[I", true)
  | 30 => ("SpaceCyclesModel", "upEdges", "[I", true)
  | 31 => ("SpaceCyclesModel", "isPoint", "[Z", true)
  | 32 => ("SpaceCyclesModel", "points", "I", false)
  | 33 => ("SpaceCyclesModel", "stack", "[I", true)
  | 34 => ("SpaceCyclesModel", "pieceLines", "[I", true)
  | 35 => ("SpaceCyclesModel", "pieceBegins", "[I", true)
  | 36 => ("SpaceCyclesModel", "pieceEnds", "[I", true)
  | 37 => ("SpaceCyclesModel", "pieceLeft", "[I", true)
  | 38 => ("SpaceCyclesModel", "pieceRight", "[I", true)
  | 39 => ("SpaceCyclesModel", "pieces", "I", false)
  | 40 => ("SpaceCyclesModel", "outs", "[I", true)
  | 41 => ("SpaceCyclesModel", "isSeen", "[Z", true)
  | 42 => ("SpaceCyclesModel", "ringSpaces", "[I", true)
  | 43 => ("SpaceCyclesModel", "ringStarts", "[I", true)
  | 44 => ("SpaceCyclesModel", "ringSizes", "[I", true)
  | 45 => ("SpaceCyclesModel", "ringLeast", "[I", true)
  | 46 => ("SpaceCyclesModel", "rings", "I", false)
  | 47 => ("SpaceCyclesModel", "outsideSides", "I", false)
  | 48 => ("SpaceCyclesModel", "looseLines", "[I", true)
  | 49 => ("SpaceCyclesModel", "looseXs", "[I", true)
  | 50 => ("SpaceCyclesModel", "looseYs", "[I", true)
  | 51 => ("SpaceCyclesModel", "looseReaches", "[I", true)
  | 52 => ("SpaceCyclesModel", "looseCount", "I", false)
  | _ => ("SpaceCyclesModel", "far", "[I", true)
def t_Mo : Nat → FieldType := fun k => match k with
  | 0 => .int
  | 1 => .array .boolean
  | 2 => .array .int
  | 3 => .array .int
  | 4 => .array .int
  | 5 => .array .int
  | 6 => .int
  | 7 => .array .int
  | 8 => .array .int
  | 9 => .array .int
  | 10 => .boolean
  | 11 => .boolean
  | 12 => .int
  | 13 => .array .int
  | 14 => .array .int
  | 15 => .int
  | 16 => .int
  | 17 => .array .int
  | 18 => .int
  | 19 => .array .int
  | 20 => .array .int
  | 21 => .int
  | 22 => .int
  | 23 => .array .int
  | 24 => .int
  | 25 => .array .int
  | 26 => .array .int
  | 27 => .array .int
  | 28 => .array .int
  | 29 => .array .int
  | 30 => .array .int
  | 31 => .array .boolean
  | 32 => .int
  | 33 => .array .int
  | 34 => .array .int
  | 35 => .array .int
  | 36 => .array .int
  | 37 => .array .int
  | 38 => .array .int
  | 39 => .int
  | 40 => .array .int
  | 41 => .array .boolean
  | 42 => .array .int
  | 43 => .array .int
  | 44 => .array .int
  | 45 => .array .int
  | 46 => .int
  | 47 => .int
  | 48 => .array .int
  | 49 => .array .int
  | 50 => .array .int
  | 51 => .array .int
  | 52 => .int
  | _ => .array .int
theorem n_Mo : ∀ a, a < 54 → ∀ b, b < 54 → a ≠ b → (F_Mo a).2.1 ≠ (F_Mo b).2.1 := by decide +kernel
theorem t_Mo_ok : ∀ k, k < 54 → parseFieldDescriptor (F_Mo k).2.2.1 = some (t_Mo k) := by decide +kernel
theorem i_Mo : ∀ w ∈ u_ws "SpaceCyclesModel" F_Mo 54, w ∈ gl := gl_p [1175, 1177, 1179, 1181, 1183, 1185, 1187, 1189, 1191, 1193, 1195, 1197, 1199, 1201, 1203, 1205, 1207, 1209, 1211, 1213, 1215, 1217, 1219, 1221, 1223, 1225, 1227, 1229, 1231, 1233, 1235, 1237, 1239, 1241, 1243, 1245, 1247, 1249, 1251, 1253, 1255, 1257, 1259, 1261, 1263, 1265, 1267, 1269, 1271, 1273, 1275, 1277, 1279, 1281] (by decide +kernel) (by decide +kernel)
abbrev vwCl : List vw_C := [("SpaceCycles", F_Sp, 12), ("SpaceCycles$Lines", F_Li, 9), ("SpaceCycles$Flood", F_Fl, 3), ("SpaceCycles$Net", F_Ne, 13), ("SpaceCycles$Rings", F_Ri, 6), ("SpaceCycles$Common", F_Co, 4), ("SpaceCycles$Names", F_Na, 3), ("SpaceCycles$Ways", F_Wa, 3), ("SpaceCycles$Grid", F_Gr, 4), ("SpaceCycles$Cuts", F_Cu, 2), ("SpaceCycles$Strips", F_St, 4), ("SpaceCyclesModel", F_Mo, 54)]
/-! Contracts in one form: a world before, a world behind, an answer; and calls over them. -/
def nests : List Cond := [.methodLinkNest "SpaceCycles" 11 ⟨"SpaceCycles$Lines", "<init>", "()V"⟩ "SpaceCycles", .methodLinkNest "SpaceCycles" 18 ⟨"SpaceCycles$Flood", "<init>", "()V"⟩ "SpaceCycles", .methodLinkNest "SpaceCycles" 25 ⟨"SpaceCycles$Net", "<init>", "()V"⟩ "SpaceCycles", .methodLinkNest "SpaceCycles" 32 ⟨"SpaceCycles$Rings", "<init>", "()V"⟩ "SpaceCycles", .methodLinkNest "SpaceCycles" 39 ⟨"SpaceCycles$Common", "<init>", "()V"⟩ "SpaceCycles", .methodLinkNest "SpaceCycles$Common" 11 ⟨"SpaceCycles$Strips", "<init>", "()V"⟩ "SpaceCycles", .methodLinkNest "SpaceCycles" 46 ⟨"SpaceCycles$Names", "<init>", "()V"⟩ "SpaceCycles", .methodLinkNest "SpaceCycles" 53 ⟨"SpaceCycles$Ways", "<init>", "()V"⟩ "SpaceCycles", .methodLinkNest "SpaceCycles" 64 ⟨"SpaceCycles$Grid", "<init>", "()V"⟩ "SpaceCycles", .methodLinkNest "SpaceCycles$Grid" 13 ⟨"SpaceCycles$Cuts", "<init>", "()V"⟩ "SpaceCycles", .methodLinkNest "SpaceCycles$Net" 81 ⟨"SpaceCycles", "turned", "(II)I"⟩ "SpaceCycles"]
/-- the links of a nest's private members: they stay as the tables warm -/
def NX (U : State) : Prop := ∀ w ∈ nests, va_Nw w U
theorem nests_on : ∀ w ∈ nests, w.onTables = true ∧ ∃ a i x h, w = Cond.methodLinkNest a i x h := by
  intro w hw
  simp only [nests, List.mem_cons, List.not_mem_nil, or_false] at hw
  rcases hw with rfl | rfl | rfl | rfl | rfl | rfl | rfl | rfl | rfl | rfl | rfl <;> exact ⟨rfl, _, _, _, _, rfl⟩
theorem NX.warm {s U : State} (hW : s.WarmedH U.vm) (h : NX s) : NX U := by
  intro w hw
  obtain ⟨-, a, i, x, k, rfl⟩ := nests_on w hw
  exact va_Nw.warmM hW (h _ hw)
theorem NX.same {s U : State} (e : s.vm = U.vm) (h : NX s) : NX U := fun w hw => va_Nw.same (nests_on w hw).1 e (h w hw)
theorem NX.of {s : State} {args : Array Value} (h : ∀ w ∈ lw_tbl, w.before args s = true) (hn : ∀ w ∈ nests, w ∈ lw_tbl) : NX s := fun w hw => va_Nw.of (nests_on w hw).1 (h w (hn w hw))
abbrev pk (ws : va_W) (is : List Nat) : va_W := is.filterMap (fun i => ws[i]?)
abbrev PP (dC : Nat → ClassId) (dI : Nat → Nat → Nat) (tys : List (ClassId × FieldType)) (av : List Value) (sz : Nat) (ws : va_W) : Array Value → State → Prop := va_Pc av (fun U => U.heap.size = sz ∧ va_P (dC, dI) vwCl ws U.heap ∧ va_K (dC, dI) vwCl tys U ∧ va_D (fun _ => True) ws ∧ NX U)
abbrev BB (dC : Nat → ClassId) (dI : Nat → Nat → Nat) (tys : List (ClassId × FieldType)) (A1 : Nat → Prop) (ws' : va_W) : Unit → State → Prop := fun _ t => va_P (dC, dI) vwCl ws' t.heap ∧ va_K (dC, dI) vwCl tys t ∧ va_D A1 ws'
abbrev QI (dC : Nat → ClassId) (dI : Nat → Nat → Nat) (tys : List (ClassId × FieldType)) (sz : Nat) (ws ws' : va_W) (r0 : Int32) : Array Value → State → Outcome → State → Prop := va_Qi (fun (r : Int32) (_ : Unit) => r = r0) (BB dC dI tys (va_A ws sz) ws') (va_A ws sz)
abbrev QL (dC : Nat → ClassId) (dI : Nat → Nat → Nat) (tys : List (ClassId × FieldType)) (sz : Nat) (ws ws' : va_W) (r0 : Int64) : Array Value → State → Outcome → State → Prop := va_Ql (fun (r : Int64) (_ : Unit) => r = r0) (BB dC dI tys (va_A ws sz) ws') (va_A ws sz)
abbrev QV (dC : Nat → ClassId) (dI : Nat → Nat → Nat) (tys : List (ClassId × FieldType)) (sz : Nat) (ws ws' : va_W) : Array Value → State → Outcome → State → Prop := va_Qv (fun (_ : Unit) => True) (BB dC dI tys (va_A ws sz) ws') (va_A ws sz)
theorem PP_blind {dC : Nat → ClassId} {dI : Nat → Nat → Nat} {tys : List (ClassId × FieldType)} {av : List Value} {sz : Nat} {ws : va_W} : FrameBlind (PP dC dI tys av sz ws) := fun a U g mk q => by
  obtain ⟨q0, q1, qP, qK, qD, qN⟩ := q
  exact ⟨q0, q1, qP, va_K.moved (u := U) (U := U.calling g mk a) (Vm.Alike.refl U.vm) qK, qD, NX.same (s := U) rfl qN⟩
theorem PP_at {s U : State} {H : Heap} {A : Nat → Prop} {dC : Nat → ClassId} {dI : Nat → Nat → Nat} {tys : List (ClassId × FieldType)} {av : List Value} {wc : va_W} (hK : va_K (dC, dI) vwCl tys s) (hN : NX s) (hPc : va_P (dC, dI) vwCl wc H) (hDc : va_D A wc) (hU : U.heap = H) (hW : s.WarmedH U.vm) : PP dC dI tys av H.size wc av.toArray U := ⟨rfl, by rw [hU], by rw [hU]; exact hPc, va_K.moved hW.alike hK, hDc.weaken (fun _ _ _ _ => trivial), hN.warm hW⟩
theorem tn {x k : Int32} {z : Int} (h : ¬ x = k) (hz : k.toInt = z) : x.toInt ≠ z := fun q => h (Int32.toInt_inj.mp (by rw [q, hz]))
theorem nar_b {x : Int32} (h : x = 0 ∨ x = 1) : narrow .boolean (.int x) = .int x := by rcases h with rfl | rfl <;> rfl
section CL
variable {p : Program} {l : Launch} {e : Env} {R : Room} {s : State} {m : MethodId} {args : Array Value} {below : List Frame} {meth : Method} {c : Code} {H : Heap} {locs : List Loc} {cells slots : Nat} {Q : State → Prop} {A : Nat → Prop} {dC : Nat → ClassId} {dI : Nat → Nat → Nat} {tys : List (ClassId × FieldType)} {ws wc wc' : va_W} {pc : Nat} {ls : Array Slot} {st0 rest : List Value} {a : Array Value}
theorem cl_i {r0 : Int32} (hr : va_Run p l e R s m args below meth c H locs cells slots 0 0 (F0 m pc ls st0) rest (QI dC dI tys H.size wc wc' r0 a) (va_A wc H.size)) (hP : va_P (dC, dI) vwCl ws H) (hD : va_D A ws) (hS : va_S A s.heap H locs) (hA : ∀ q : Nat, s.heap.size ≤ q → A q) (isC isR : List Nat) (hC : isC.map (fun i => ws[i]?) = wc.map some) (hR : isR.map (fun i => ws[i]?) = (pk ws isR).map some) (hn : va_nd isR = true) (hdis : ∀ i ∈ isR, i ∉ isC)
    (k : ∀ (H1 : Heap) (locs1 : List Loc), va_P (dC, dI) vwCl (pk ws isR ++ wc') H1 → va_D A (pk ws isR ++ wc') → va_S A s.heap H1 locs1 → W p l e R s m args below meth c H1 locs1 cells slots Q (F0 m (pc + 3) ls (.int r0 :: rest))) : W p l e R s m args below meth c H locs cells slots Q (F0 m pc ls st0) := by
  have hFc := va_free (wc := wc) hD hS hA isC hC
  refine va_calli hr hS (fun q _ h => hFc q h) hFc (fun r u t H1 locs1 ht hvm hw hB hz1 hk1 hS => ?_)
  obtain ⟨hP1, hK1, hD1⟩ := hB
  rw [ht] at hP1
  subst hw
  obtain ⟨hP, hD⟩ := va_join (wr := pk ws isR) (w1 := wc') hP hD isC isR hC hR hn hdis hk1 hFc hP1 hD1
  exact k H1 locs1 hP hD hS
theorem cl_l {r0 : Int64} (hr : va_Run p l e R s m args below meth c H locs cells slots 0 0 (F0 m pc ls st0) rest (QL dC dI tys H.size wc wc' r0 a) (va_A wc H.size)) (hP : va_P (dC, dI) vwCl ws H) (hD : va_D A ws) (hS : va_S A s.heap H locs) (hA : ∀ q : Nat, s.heap.size ≤ q → A q) (isC isR : List Nat) (hC : isC.map (fun i => ws[i]?) = wc.map some) (hR : isR.map (fun i => ws[i]?) = (pk ws isR).map some) (hn : va_nd isR = true) (hdis : ∀ i ∈ isR, i ∉ isC)
    (k : ∀ (H1 : Heap) (locs1 : List Loc), va_P (dC, dI) vwCl (pk ws isR ++ wc') H1 → va_D A (pk ws isR ++ wc') → va_S A s.heap H1 locs1 → W p l e R s m args below meth c H1 locs1 cells slots Q (F0 m (pc + 3) ls (.long r0 :: rest))) : W p l e R s m args below meth c H locs cells slots Q (F0 m pc ls st0) := by
  have hFc := va_free (wc := wc) hD hS hA isC hC
  refine va_calll hr hS (fun q _ h => hFc q h) hFc (fun r u t H1 locs1 ht hvm hw hB hz1 hk1 hS => ?_)
  obtain ⟨hP1, hK1, hD1⟩ := hB
  rw [ht] at hP1
  subst hw
  obtain ⟨hP, hD⟩ := va_join (wr := pk ws isR) (w1 := wc') hP hD isC isR hC hR hn hdis hk1 hFc hP1 hD1
  exact k H1 locs1 hP hD hS
theorem cl_v (hr : va_Run p l e R s m args below meth c H locs cells slots 0 0 (F0 m pc ls st0) rest (QV dC dI tys H.size wc wc' a) (va_A wc H.size)) (hP : va_P (dC, dI) vwCl ws H) (hD : va_D A ws) (hS : va_S A s.heap H locs) (hA : ∀ q : Nat, s.heap.size ≤ q → A q) (isC isR : List Nat) (hC : isC.map (fun i => ws[i]?) = wc.map some) (hR : isR.map (fun i => ws[i]?) = (pk ws isR).map some) (hn : va_nd isR = true) (hdis : ∀ i ∈ isR, i ∉ isC)
    (k : ∀ (H1 : Heap) (locs1 : List Loc), va_P (dC, dI) vwCl (pk ws isR ++ wc') H1 → va_D A (pk ws isR ++ wc') → va_S A s.heap H1 locs1 → W p l e R s m args below meth c H1 locs1 cells slots Q (F0 m (pc + 3) ls rest)) : W p l e R s m args below meth c H locs cells slots Q (F0 m pc ls st0) := by
  have hFc := va_free (wc := wc) hD hS hA isC hC
  refine va_callv hr hS (fun q _ h => hFc q h) hFc (fun u t H1 locs1 ht hvm hw hB hz1 hk1 hS => ?_)
  obtain ⟨hP1, hK1, hD1⟩ := hB
  rw [ht] at hP1
  obtain ⟨hP, hD⟩ := va_join (wr := pk ws isR) (w1 := wc') hP hD isC isR hC hR hn hdis hk1 hFc hP1 hD1
  exact k H1 locs1 hP hD hS
end CL
