/-! ===== the tables of the machine's side: classes, methods, links, by program (wip/whole/gentab.py) ===== -/
def RX0 : String := "ChiefCircles$Draws"
def TX0 : u_T := fun k => match k with
  | _ => ("ChiefCircles$Draws", "x", "I", false)
def tyX0 : Nat → FieldType := fun k => match k with
  | _ => .int
theorem nmX0 : ∀ a, a < 1 → ∀ b, b < 1 → a ≠ b → (TX0 a).2.1 ≠ (TX0 b).2.1 := by decide +kernel
theorem tyX0_ok : ∀ k, k < 1 → parseFieldDescriptor (TX0 k).2.2.1 = some (tyX0 k) := by decide +kernel
def RX1 : String := "ChiefCircles$Mail"
def TX1 : u_T := fun k => match k with
  | 0 => ("ChiefCircles$Mail", "rows", "[I", true)
  | 1 => ("ChiefCircles$Mail", "size", "I", false)
  | 2 => ("ChiefCircles$Mail", "come", "I", false)
  | 3 => ("ChiefCircles$Mail", "lost", "I", false)
  | 4 => ("ChiefCircles$Mail", "sentOf", "[I", true)
  | _ => ("ChiefCircles$Mail", "handledOf", "[I", true)
def tyX1 : Nat → FieldType := fun k => match k with
  | 0 => .array .int
  | 1 => .int
  | 2 => .int
  | 3 => .int
  | 4 => .array .int
  | _ => .array .int
theorem nmX1 : ∀ a, a < 6 → ∀ b, b < 6 → a ≠ b → (TX1 a).2.1 ≠ (TX1 b).2.1 := by decide +kernel
theorem tyX1_ok : ∀ k, k < 6 → parseFieldDescriptor (TX1 k).2.2.1 = some (tyX1 k) := by decide +kernel
def RX2 : String := "ChiefCircles$Member"
def TX2 : u_T := fun k => match k with
  | 0 => ("ChiefCircles$Member", "number", "I", true)
  | 1 => ("ChiefCircles$Member", "rank", "I", false)
  | 2 => ("ChiefCircles$Member", "above", "I", false)
  | 3 => ("ChiefCircles$Member", "state", "I", false)
  | 4 => ("ChiefCircles$Member", "chief", "I", false)
  | 5 => ("ChiefCircles$Member", "count", "I", false)
  | 6 => ("ChiefCircles$Member", "group", "I", false)
  | 7 => ("ChiefCircles$Member", "up", "I", false)
  | 8 => ("ChiefCircles$Member", "found", "I", false)
  | 9 => ("ChiefCircles$Member", "heard", "I", false)
  | 10 => ("ChiefCircles$Member", "phase", "I", false)
  | 11 => ("ChiefCircles$Member", "alarm", "I", false)
  | 12 => ("ChiefCircles$Member", "ledger", "[I", true)
  | 13 => ("ChiefCircles$Member", "work", "[I", true)
  | _ => ("ChiefCircles$Member", "tallies", "[I", true)
def tyX2 : Nat → FieldType := fun k => match k with
  | 0 => .int
  | 1 => .int
  | 2 => .int
  | 3 => .int
  | 4 => .int
  | 5 => .int
  | 6 => .int
  | 7 => .int
  | 8 => .int
  | 9 => .int
  | 10 => .int
  | 11 => .int
  | 12 => .array .int
  | 13 => .array .int
  | _ => .array .int
theorem nmX2 : ∀ a, a < 15 → ∀ b, b < 15 → a ≠ b → (TX2 a).2.1 ≠ (TX2 b).2.1 := by decide +kernel
theorem tyX2_ok : ∀ k, k < 15 → parseFieldDescriptor (TX2 k).2.2.1 = some (tyX2 k) := by decide +kernel
def RX3 : String := "ChiefCircles$Setup"
def TX3 : u_T := fun k => match k with
  | 0 => ("ChiefCircles$Setup", "members", "I", false)
  | 1 => ("ChiefCircles$Setup", "jobs", "I", false)
  | 2 => ("ChiefCircles$Setup", "rules", "[I", true)
  | _ => ("ChiefCircles$Setup", "ranks", "[I", true)
def tyX3 : Nat → FieldType := fun k => match k with
  | 0 => .int
  | 1 => .int
  | 2 => .array .int
  | _ => .array .int
theorem nmX3 : ∀ a, a < 4 → ∀ b, b < 4 → a ≠ b → (TX3 a).2.1 ≠ (TX3 b).2.1 := by decide +kernel
theorem tyX3_ok : ∀ k, k < 4 → parseFieldDescriptor (TX3 k).2.2.1 = some (tyX3 k) := by decide +kernel
def RX5 : String := "ChiefCircles$TextReader"
def TX5 : u_T := fun k => match k with
  | 0 => ("ChiefCircles$TextReader", "setup", "LChiefCircles$Setup;", true)
  | 1 => ("ChiefCircles$TextReader", "faultKind", "I", false)
  | 2 => ("ChiefCircles$TextReader", "faultPlace", "I", false)
  | 3 => ("ChiefCircles$TextReader", "bytes", "[I", false)
  | 4 => ("ChiefCircles$TextReader", "length", "I", false)
  | 5 => ("ChiefCircles$TextReader", "at", "I", false)
  | 6 => ("ChiefCircles$TextReader", "number", "I", false)
  | 7 => ("ChiefCircles$TextReader", "numberPlace", "I", false)
  | _ => ("ChiefCircles$TextReader", "linesTold", "I", false)
def tyX5 : Nat → FieldType := fun k => match k with
  | 0 => .object "ChiefCircles$Setup"
  | 1 => .int
  | 2 => .int
  | 3 => .array .int
  | 4 => .int
  | 5 => .int
  | 6 => .int
  | 7 => .int
  | _ => .int
theorem nmX5 : ∀ a, a < 9 → ∀ b, b < 9 → a ≠ b → (TX5 a).2.1 ≠ (TX5 b).2.1 := by decide +kernel
theorem tyX5_ok : ∀ k, k < 9 → parseFieldDescriptor (TX5 k).2.2.1 = some (tyX5 k) := by decide +kernel
def RX6 : String := "ChiefCircles$World"
def TX6 : u_T := fun k => match k with
  | 0 => ("ChiefCircles$World", "members", "I", false)
  | 1 => ("ChiefCircles$World", "jobs", "I", false)
  | 2 => ("ChiefCircles$World", "clock", "I", false)
  | 3 => ("ChiefCircles$World", "rules", "[I", true)
  | 4 => ("ChiefCircles$World", "whole", "[I", true)
  | 5 => ("ChiefCircles$World", "member", "[LChiefCircles$Member;", true)
  | 6 => ("ChiefCircles$World", "mail", "LChiefCircles$Mail;", true)
  | 7 => ("ChiefCircles$World", "changes", "[I", true)
  | _ => ("ChiefCircles$World", "changed", "I", false)
def tyX6 : Nat → FieldType := fun k => match k with
  | 0 => .int
  | 1 => .int
  | 2 => .int
  | 3 => .array .int
  | 4 => .array .int
  | 5 => .array (.object "ChiefCircles$Member")
  | 6 => .object "ChiefCircles$Mail"
  | 7 => .array .int
  | _ => .int
theorem nmX6 : ∀ a, a < 9 → ∀ b, b < 9 → a ≠ b → (TX6 a).2.1 ≠ (TX6 b).2.1 := by decide +kernel
theorem tyX6_ok : ∀ k, k < 9 → parseFieldDescriptor (TX6 k).2.2.1 = some (tyX6 k) := by decide +kernel
def RX7 : String := "ChiefCircles"
def TX7 : u_T := fun k => match k with
  | 0 => ("ChiefCircles", "tape", "[I", true)
  | 1 => ("ChiefCircles", "tapeBytes", "I", false)
  | 2 => ("ChiefCircles", "faultPlace", "I", false)
  | 3 => ("ChiefCircles", "refused", "[I", true)
  | 4 => ("ChiefCircles", "reader", "LChiefCircles$TextReader;", true)
  | 5 => ("ChiefCircles", "now", "LChiefCircles$World;", false)
  | 6 => ("ChiefCircles", "paper", "LChiefCircles$World;", true)
  | 7 => ("ChiefCircles", "past", "[LChiefCircles$World;", true)
  | 8 => ("ChiefCircles", "pastNext", "I", false)
  | 9 => ("ChiefCircles", "pastCount", "I", false)
  | _ => ("ChiefCircles", "draws", "LChiefCircles$Draws;", true)
def tyX7 : Nat → FieldType := fun k => match k with
  | 0 => .array .int
  | 1 => .int
  | 2 => .int
  | 3 => .array .int
  | 4 => .object "ChiefCircles$TextReader"
  | 5 => .object "ChiefCircles$World"
  | 6 => .object "ChiefCircles$World"
  | 7 => .array (.object "ChiefCircles$World")
  | 8 => .int
  | 9 => .int
  | _ => .object "ChiefCircles$Draws"
theorem nmX7 : ∀ a, a < 11 → ∀ b, b < 11 → a ≠ b → (TX7 a).2.1 ≠ (TX7 b).2.1 := by decide +kernel
theorem tyX7_ok : ∀ k, k < 11 → parseFieldDescriptor (TX7 k).2.2.1 = some (tyX7 k) := by decide +kernel
def RX8 : String := "ChiefCirclesModel"
def TX8 : u_T := fun k => match k with
  | 0 => ("ChiefCirclesModel", "thrown", "I", false)
  | 1 => ("ChiefCirclesModel", "refused", "[I", true)
  | 2 => ("ChiefCirclesModel", "tape", "I", false)
  | 3 => ("ChiefCirclesModel", "size", "I", false)
  | 4 => ("ChiefCirclesModel", "at", "I", false)
  | 5 => ("ChiefCirclesModel", "place", "I", false)
  | 6 => ("ChiefCirclesModel", "fault", "I", false)
  | 7 => ("ChiefCirclesModel", "faultAt", "I", false)
  | 8 => ("ChiefCirclesModel", "fed", "[I", true)
  | 9 => ("ChiefCirclesModel", "s", "[I", true)
  | 10 => ("ChiefCirclesModel", "draft", "[I", true)
  | 11 => ("ChiefCirclesModel", "paper", "[I", true)
  | 12 => ("ChiefCirclesModel", "seedPaper", "[I", true)
  | 13 => ("ChiefCirclesModel", "past", "[[I", true)
  | 14 => ("ChiefCirclesModel", "backs", "I", false)
  | 15 => ("ChiefCirclesModel", "begin", "I", false)
  | 16 => ("ChiefCirclesModel", "lines", "I", false)
  | 17 => ("ChiefCirclesModel", "now", "[I", true)
  | 18 => ("ChiefCirclesModel", "handledNow", "I", false)
  | _ => ("ChiefCirclesModel", "drawn", "I", false)
def tyX8 : Nat → FieldType := fun k => match k with
  | 0 => .int
  | 1 => .array .int
  | 2 => .int
  | 3 => .int
  | 4 => .int
  | 5 => .int
  | 6 => .int
  | 7 => .int
  | 8 => .array .int
  | 9 => .array .int
  | 10 => .array .int
  | 11 => .array .int
  | 12 => .array .int
  | 13 => .array (.array .int)
  | 14 => .int
  | 15 => .int
  | 16 => .int
  | 17 => .array .int
  | 18 => .int
  | _ => .int
theorem nmX8 : ∀ a, a < 20 → ∀ b, b < 20 → a ≠ b → (TX8 a).2.1 ≠ (TX8 b).2.1 := by decide +kernel
theorem tyX8_ok : ∀ k, k < 20 → parseFieldDescriptor (TX8 k).2.2.1 = some (tyX8 k) := by decide +kernel
abbrev z_cl : List vw_C := [(RX0, TX0, 1), (RX1, TX1, 6), (RX2, TX2, 15), (RX3, TX3, 4), (RX5, TX5, 9), (RX6, TX6, 9), (RX7, TX7, 11), (RX8, TX8, 20)]
def z_Cn (ci : Nat) : String := if ci = 0 then RX0 else if ci = 1 then RX1 else if ci = 2 then RX2 else if ci = 3 then RX3 else if ci = 4 then RX5 else if ci = 5 then RX6 else if ci = 6 then RX7 else if ci = 7 then RX8 else ""
def z_CT (ci : Nat) : u_T := if ci = 0 then TX0 else if ci = 1 then TX1 else if ci = 2 then TX2 else if ci = 3 then TX3 else if ci = 4 then TX5 else if ci = 5 then TX6 else if ci = 6 then TX7 else if ci = 7 then TX8 else TX0
def z_Cty (ci : Nat) : Nat → FieldType := if ci = 0 then tyX0 else if ci = 1 then tyX1 else if ci = 2 then tyX2 else if ci = 3 then tyX3 else if ci = 4 then tyX5 else if ci = 5 then tyX6 else if ci = 6 then tyX7 else if ci = 7 then tyX8 else tyX0
/-- which fields are references -/
def z_isR (ci k : Nat) : Bool := (if ci = 0 then [false] else if ci = 1 then [true, false, false, false, true, true] else if ci = 2 then [false, false, false, false, false, false, false, false, false, false, false, false, true, true, true] else if ci = 3 then [false, false, true, true] else if ci = 4 then [true, false, false, true, false, false, false, false, false] else if ci = 5 then [false, false, false, true, true, true, true, true, false] else if ci = 6 then [true, false, false, true, true, true, true, true, false, false, true] else if ci = 7 then [false, true, false, false, false, false, false, false, true, true, true, true, true, true, false, false, false, true, false, false] else []).getD k false
/-- the words that stay -/
def z_gw : List Cond := lw_tbl.filter goodWord
set_option maxRecDepth 20000 in
theorem z_lay0 : ∀ w ∈ u_ws RX0 TX0 1, w ∈ z_gw := by
  intro w hw
  obtain ⟨k, hk, rfl⟩ := List.mem_map.mp hw
  have hk := List.mem_range.mp hk
  have h : ∀ k, k < 1 → lw_tbl[([370] : List Nat).getD k 0]? = some (u_lay RX0 TX0 k) ∧ goodWord (u_lay RX0 TX0 k) = true := by decide +kernel
  exact List.mem_filter.mpr ⟨List.mem_of_getElem? (h k hk).1, (h k hk).2⟩
set_option maxRecDepth 20000 in
theorem z_lay1 : ∀ w ∈ u_ws RX1 TX1 6, w ∈ z_gw := by
  intro w hw
  obtain ⟨k, hk, rfl⟩ := List.mem_map.mp hw
  have hk := List.mem_range.mp hk
  have h : ∀ k, k < 6 → lw_tbl[([221, 223, 225, 227, 229, 231] : List Nat).getD k 0]? = some (u_lay RX1 TX1 k) ∧ goodWord (u_lay RX1 TX1 k) = true := by decide +kernel
  exact List.mem_filter.mpr ⟨List.mem_of_getElem? (h k hk).1, (h k hk).2⟩
set_option maxRecDepth 20000 in
theorem z_lay2 : ∀ w ∈ u_ws RX2 TX2 15, w ∈ z_gw := by
  intro w hw
  obtain ⟨k, hk, rfl⟩ := List.mem_map.mp hw
  have hk := List.mem_range.mp hk
  have h : ∀ k, k < 15 → lw_tbl[([291, 293, 295, 297, 299, 301, 303, 305, 307, 309, 311, 313, 315, 317, 319] : List Nat).getD k 0]? = some (u_lay RX2 TX2 k) ∧ goodWord (u_lay RX2 TX2 k) = true := by decide +kernel
  exact List.mem_filter.mpr ⟨List.mem_of_getElem? (h k hk).1, (h k hk).2⟩
set_option maxRecDepth 20000 in
theorem z_lay3 : ∀ w ∈ u_ws RX3 TX3 4, w ∈ z_gw := by
  intro w hw
  obtain ⟨k, hk, rfl⟩ := List.mem_map.mp hw
  have hk := List.mem_range.mp hk
  have h : ∀ k, k < 4 → lw_tbl[([152, 154, 156, 158] : List Nat).getD k 0]? = some (u_lay RX3 TX3 k) ∧ goodWord (u_lay RX3 TX3 k) = true := by decide +kernel
  exact List.mem_filter.mpr ⟨List.mem_of_getElem? (h k hk).1, (h k hk).2⟩
set_option maxRecDepth 20000 in
theorem z_lay4 : ∀ w ∈ u_ws RX5 TX5 9, w ∈ z_gw := by
  intro w hw
  obtain ⟨k, hk, rfl⟩ := List.mem_map.mp hw
  have hk := List.mem_range.mp hk
  have h : ∀ k, k < 9 → lw_tbl[([174, 176, 178, 180, 182, 184, 186, 188, 190] : List Nat).getD k 0]? = some (u_lay RX5 TX5 k) ∧ goodWord (u_lay RX5 TX5 k) = true := by decide +kernel
  exact List.mem_filter.mpr ⟨List.mem_of_getElem? (h k hk).1, (h k hk).2⟩
set_option maxRecDepth 20000 in
theorem z_lay5 : ∀ w ∈ u_ws RX6 TX6 9, w ∈ z_gw := by
  intro w hw
  obtain ⟨k, hk, rfl⟩ := List.mem_map.mp hw
  have hk := List.mem_range.mp hk
  have h : ∀ k, k < 9 → lw_tbl[([342, 344, 346, 348, 350, 352, 354, 356, 358] : List Nat).getD k 0]? = some (u_lay RX6 TX6 k) ∧ goodWord (u_lay RX6 TX6 k) = true := by decide +kernel
  exact List.mem_filter.mpr ⟨List.mem_of_getElem? (h k hk).1, (h k hk).2⟩
set_option maxRecDepth 20000 in
theorem z_lay6 : ∀ w ∈ u_ws RX7 TX7 11, w ∈ z_gw := by
  intro w hw
  obtain ⟨k, hk, rfl⟩ := List.mem_map.mp hw
  have hk := List.mem_range.mp hk
  have h : ∀ k, k < 11 → lw_tbl[([446, 448, 450, 452, 454, 456, 458, 460, 462, 464, 466] : List Nat).getD k 0]? = some (u_lay RX7 TX7 k) ∧ goodWord (u_lay RX7 TX7 k) = true := by decide +kernel
  exact List.mem_filter.mpr ⟨List.mem_of_getElem? (h k hk).1, (h k hk).2⟩
set_option maxRecDepth 20000 in
theorem z_lay7 : ∀ w ∈ u_ws RX8 TX8 20, w ∈ z_gw := by
  intro w hw
  obtain ⟨k, hk, rfl⟩ := List.mem_map.mp hw
  have hk := List.mem_range.mp hk
  have h : ∀ k, k < 20 → lw_tbl[([1192, 1194, 1196, 1198, 1200, 1202, 1204, 1206, 1208, 1210, 1212, 1214, 1216, 1218, 1220, 1222, 1224, 1226, 1228, 1230] : List Nat).getD k 0]? = some (u_lay RX8 TX8 k) ∧ goodWord (u_lay RX8 TX8 k) = true := by decide +kernel
  exact List.mem_filter.mpr ⟨List.mem_of_getElem? (h k hk).1, (h k hk).2⟩
/-- all that the tables say of a class of ours -/
def z_COK (ci : Nat) : Prop := z_cl[ci]? = some (z_Cn ci, z_CT ci, z_nf ci) ∧ (∀ w ∈ u_ws (z_Cn ci) (z_CT ci) (z_nf ci), w ∈ z_gw) ∧ (∀ k, k < z_nf ci → parseFieldDescriptor (z_CT ci k).2.2.1 = some (z_Cty ci k)) ∧ (∀ a, a < z_nf ci → ∀ b, b < z_nf ci → a ≠ b → (z_CT ci a).2.1 ≠ (z_CT ci b).2.1) ∧ (∀ k, k < z_nf ci → (z_CT ci k).1 = z_Cn ci ∧ ((z_isR ci k = false → z_Cty ci k = .int) ∧ (z_isR ci k = true → (∃ C, z_Cty ci k = .object C) ∨ ∃ t, z_Cty ci k = .array t)))
theorem z_cok0 : z_COK 0 := ⟨rfl, z_lay0, tyX0_ok, nmX0, by
  intro k hk
  have h : ∀ k, k < 1 → (z_CT 0 k).1 = z_Cn 0 ∧ ((z_isR 0 k = false → z_Cty 0 k = .int) ∧ (z_isR 0 k = true → (match z_Cty 0 k with | .object _ => true | .array _ => true | _ => false) = true)) := by decide +kernel
  obtain ⟨h1, h2, h3⟩ := h k hk
  refine ⟨h1, h2, fun hr => ?_⟩
  have h4 := h3 hr
  generalize z_Cty 0 k = t at h4
  cases t <;> simp at h4 <;> first | exact Or.inl ⟨_, rfl⟩ | exact Or.inr ⟨_, rfl⟩⟩
theorem z_cok1 : z_COK 1 := ⟨rfl, z_lay1, tyX1_ok, nmX1, by
  intro k hk
  have h : ∀ k, k < 6 → (z_CT 1 k).1 = z_Cn 1 ∧ ((z_isR 1 k = false → z_Cty 1 k = .int) ∧ (z_isR 1 k = true → (match z_Cty 1 k with | .object _ => true | .array _ => true | _ => false) = true)) := by decide +kernel
  obtain ⟨h1, h2, h3⟩ := h k hk
  refine ⟨h1, h2, fun hr => ?_⟩
  have h4 := h3 hr
  generalize z_Cty 1 k = t at h4
  cases t <;> simp at h4 <;> first | exact Or.inl ⟨_, rfl⟩ | exact Or.inr ⟨_, rfl⟩⟩
theorem z_cok2 : z_COK 2 := ⟨rfl, z_lay2, tyX2_ok, nmX2, by
  intro k hk
  have h : ∀ k, k < 15 → (z_CT 2 k).1 = z_Cn 2 ∧ ((z_isR 2 k = false → z_Cty 2 k = .int) ∧ (z_isR 2 k = true → (match z_Cty 2 k with | .object _ => true | .array _ => true | _ => false) = true)) := by decide +kernel
  obtain ⟨h1, h2, h3⟩ := h k hk
  refine ⟨h1, h2, fun hr => ?_⟩
  have h4 := h3 hr
  generalize z_Cty 2 k = t at h4
  cases t <;> simp at h4 <;> first | exact Or.inl ⟨_, rfl⟩ | exact Or.inr ⟨_, rfl⟩⟩
theorem z_cok3 : z_COK 3 := ⟨rfl, z_lay3, tyX3_ok, nmX3, by
  intro k hk
  have h : ∀ k, k < 4 → (z_CT 3 k).1 = z_Cn 3 ∧ ((z_isR 3 k = false → z_Cty 3 k = .int) ∧ (z_isR 3 k = true → (match z_Cty 3 k with | .object _ => true | .array _ => true | _ => false) = true)) := by decide +kernel
  obtain ⟨h1, h2, h3⟩ := h k hk
  refine ⟨h1, h2, fun hr => ?_⟩
  have h4 := h3 hr
  generalize z_Cty 3 k = t at h4
  cases t <;> simp at h4 <;> first | exact Or.inl ⟨_, rfl⟩ | exact Or.inr ⟨_, rfl⟩⟩
theorem z_cok4 : z_COK 4 := ⟨rfl, z_lay4, tyX5_ok, nmX5, by
  intro k hk
  have h : ∀ k, k < 9 → (z_CT 4 k).1 = z_Cn 4 ∧ ((z_isR 4 k = false → z_Cty 4 k = .int) ∧ (z_isR 4 k = true → (match z_Cty 4 k with | .object _ => true | .array _ => true | _ => false) = true)) := by decide +kernel
  obtain ⟨h1, h2, h3⟩ := h k hk
  refine ⟨h1, h2, fun hr => ?_⟩
  have h4 := h3 hr
  generalize z_Cty 4 k = t at h4
  cases t <;> simp at h4 <;> first | exact Or.inl ⟨_, rfl⟩ | exact Or.inr ⟨_, rfl⟩⟩
theorem z_cok5 : z_COK 5 := ⟨rfl, z_lay5, tyX6_ok, nmX6, by
  intro k hk
  have h : ∀ k, k < 9 → (z_CT 5 k).1 = z_Cn 5 ∧ ((z_isR 5 k = false → z_Cty 5 k = .int) ∧ (z_isR 5 k = true → (match z_Cty 5 k with | .object _ => true | .array _ => true | _ => false) = true)) := by decide +kernel
  obtain ⟨h1, h2, h3⟩ := h k hk
  refine ⟨h1, h2, fun hr => ?_⟩
  have h4 := h3 hr
  generalize z_Cty 5 k = t at h4
  cases t <;> simp at h4 <;> first | exact Or.inl ⟨_, rfl⟩ | exact Or.inr ⟨_, rfl⟩⟩
theorem z_cok6 : z_COK 6 := ⟨rfl, z_lay6, tyX7_ok, nmX7, by
  intro k hk
  have h : ∀ k, k < 11 → (z_CT 6 k).1 = z_Cn 6 ∧ ((z_isR 6 k = false → z_Cty 6 k = .int) ∧ (z_isR 6 k = true → (match z_Cty 6 k with | .object _ => true | .array _ => true | _ => false) = true)) := by decide +kernel
  obtain ⟨h1, h2, h3⟩ := h k hk
  refine ⟨h1, h2, fun hr => ?_⟩
  have h4 := h3 hr
  generalize z_Cty 6 k = t at h4
  cases t <;> simp at h4 <;> first | exact Or.inl ⟨_, rfl⟩ | exact Or.inr ⟨_, rfl⟩⟩
theorem z_cok7 : z_COK 7 := ⟨rfl, z_lay7, tyX8_ok, nmX8, by
  intro k hk
  have h : ∀ k, k < 20 → (z_CT 7 k).1 = z_Cn 7 ∧ ((z_isR 7 k = false → z_Cty 7 k = .int) ∧ (z_isR 7 k = true → (match z_Cty 7 k with | .object _ => true | .array _ => true | _ => false) = true)) := by decide +kernel
  obtain ⟨h1, h2, h3⟩ := h k hk
  refine ⟨h1, h2, fun hr => ?_⟩
  have h4 := h3 hr
  generalize z_Cty 7 k = t at h4
  cases t <;> simp at h4 <;> first | exact Or.inl ⟨_, rfl⟩ | exact Or.inr ⟨_, rfl⟩⟩
theorem z_cok {ci : Nat} (h : ci < 8) : z_COK ci := by
  rcases (show ci = 0 ∨ ci = 1 ∨ ci = 2 ∨ ci = 3 ∨ ci = 4 ∨ ci = 5 ∨ ci = 6 ∨ ci = 7 by omega) with rfl | rfl | rfl | rfl | rfl | rfl | rfl | rfl
  · exact z_cok0
  · exact z_cok1
  · exact z_cok2
  · exact z_cok3
  · exact z_cok4
  · exact z_cok5
  · exact z_cok6
  · exact z_cok7
