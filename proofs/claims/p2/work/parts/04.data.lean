def R_Ce : String := "FrameBench$Cells"
def F_Ce : u_T := fun k => match k with
  | 0 => ("FrameBench$Cells", "meter", "LFrameBench$Meter;", true)
  | 1 => ("FrameBench$Cells", "terms", "[I", true)
  | 2 => ("FrameBench$Cells", "scopes", "[I", true)
  | 3 => ("FrameBench$Cells", "nexts", "[I", true)
  | 4 => ("FrameBench$Cells", "binders", "[I", true)
  | _ => ("FrameBench$Cells", "top", "I", false)
def t_Ce : Nat → FieldType := fun k => match k with
  | 0 => .object "FrameBench$Meter"
  | 1 => .array .int
  | 2 => .array .int
  | 3 => .array .int
  | 4 => .array .int
  | _ => .int
theorem n_Ce : ∀ a, a < 6 → ∀ b, b < 6 → a ≠ b → (F_Ce a).2.1 ≠ (F_Ce b).2.1 := by decide +kernel
theorem t_Ce_ok : ∀ k, k < 6 → parseFieldDescriptor (F_Ce k).2.2.1 = some (t_Ce k) := by decide +kernel
def ip_Ce : Nat → Nat := fun k => match k with
  | 0 => 251
  | 1 => 253
  | 2 => 255
  | 3 => 257
  | 4 => 259
  | _ => 261
theorem ih_Ce : ∀ k, k < 6 → lw_tbl[ip_Ce k]? = some (u_lay R_Ce F_Ce k) := by decide +kernel
theorem i_Ce : ∀ w ∈ u_ws R_Ce F_Ce 6, w ∈ lw_tbl := fun w hw => by
  obtain ⟨k, hk, rfl⟩ := List.mem_map.mp hw
  exact List.mem_of_getElem? (ih_Ce k (List.mem_range.mp hk))
def R_Ck : String := "FrameBench$Checker"
def F_Ck : u_T := fun k => match k with
  | 0 => ("FrameBench$Checker", "nodes", "LFrameBench$Nodes;", true)
  | 1 => ("FrameBench$Checker", "constants", "LFrameBench$Constants;", true)
  | 2 => ("FrameBench$Checker", "meter", "LFrameBench$Meter;", true)
  | 3 => ("FrameBench$Checker", "cells", "LFrameBench$Cells;", true)
  | 4 => ("FrameBench$Checker", "machine", "LFrameBench$Machine;", true)
  | 5 => ("FrameBench$Checker", "judge", "LFrameBench$Judge;", true)
  | 6 => ("FrameBench$Checker", "fault", "I", false)
  | _ => ("FrameBench$Checker", "sort", "I", false)
def t_Ck : Nat → FieldType := fun k => match k with
  | 0 => .object "FrameBench$Nodes"
  | 1 => .object "FrameBench$Constants"
  | 2 => .object "FrameBench$Meter"
  | 3 => .object "FrameBench$Cells"
  | 4 => .object "FrameBench$Machine"
  | 5 => .object "FrameBench$Judge"
  | 6 => .int
  | _ => .int
theorem n_Ck : ∀ a, a < 8 → ∀ b, b < 8 → a ≠ b → (F_Ck a).2.1 ≠ (F_Ck b).2.1 := by decide +kernel
theorem t_Ck_ok : ∀ k, k < 8 → parseFieldDescriptor (F_Ck k).2.2.1 = some (t_Ck k) := by decide +kernel
def ip_Ck : Nat → Nat := fun k => match k with
  | 0 => 408
  | 1 => 410
  | 2 => 412
  | 3 => 414
  | 4 => 416
  | 5 => 418
  | 6 => 420
  | _ => 422
theorem ih_Ck : ∀ k, k < 8 → lw_tbl[ip_Ck k]? = some (u_lay R_Ck F_Ck k) := by decide +kernel
theorem i_Ck : ∀ w ∈ u_ws R_Ck F_Ck 8, w ∈ lw_tbl := fun w hw => by
  obtain ⟨k, hk, rfl⟩ := List.mem_map.mp hw
  exact List.mem_of_getElem? (ih_Ck k (List.mem_range.mp hk))
def R_Co : String := "FrameBench$Constants"
def F_Co : u_T := fun k => match k with
  | 0 => ("FrameBench$Constants", "nodes", "LFrameBench$Nodes;", true)
  | 1 => ("FrameBench$Constants", "names", "[C", true)
  | 2 => ("FrameBench$Constants", "nameLengths", "[I", true)
  | 3 => ("FrameBench$Constants", "sorts", "[I", true)
  | 4 => ("FrameBench$Constants", "types", "[I", true)
  | 5 => ("FrameBench$Constants", "bodies", "[I", true)
  | 6 => ("FrameBench$Constants", "floors", "[I", true)
  | _ => ("FrameBench$Constants", "number", "I", false)
def t_Co : Nat → FieldType := fun k => match k with
  | 0 => .object "FrameBench$Nodes"
  | 1 => .array .char
  | 2 => .array .int
  | 3 => .array .int
  | 4 => .array .int
  | 5 => .array .int
  | 6 => .array .int
  | _ => .int
theorem n_Co : ∀ a, a < 8 → ∀ b, b < 8 → a ≠ b → (F_Co a).2.1 ≠ (F_Co b).2.1 := by decide +kernel
theorem t_Co_ok : ∀ k, k < 8 → parseFieldDescriptor (F_Co k).2.2.1 = some (t_Co k) := by decide +kernel
def ip_Co : Nat → Nat := fun k => match k with
  | 0 => 205
  | 1 => 207
  | 2 => 209
  | 3 => 211
  | 4 => 213
  | 5 => 215
  | 6 => 217
  | _ => 219
theorem ih_Co : ∀ k, k < 8 → lw_tbl[ip_Co k]? = some (u_lay R_Co F_Co k) := by decide +kernel
theorem i_Co : ∀ w ∈ u_ws R_Co F_Co 8, w ∈ lw_tbl := fun w hw => by
  obtain ⟨k, hk, rfl⟩ := List.mem_map.mp hw
  exact List.mem_of_getElem? (ih_Co k (List.mem_range.mp hk))
def R_Ju : String := "FrameBench$Judge"
def F_Ju : u_T := fun k => match k with
  | 0 => ("FrameBench$Judge", "nodes", "LFrameBench$Nodes;", true)
  | 1 => ("FrameBench$Judge", "constants", "LFrameBench$Constants;", true)
  | 2 => ("FrameBench$Judge", "meter", "LFrameBench$Meter;", true)
  | 3 => ("FrameBench$Judge", "cells", "LFrameBench$Cells;", true)
  | 4 => ("FrameBench$Judge", "machine", "LFrameBench$Machine;", true)
  | 5 => ("FrameBench$Judge", "metOne", "I", false)
  | 6 => ("FrameBench$Judge", "metOther", "I", false)
  | 7 => ("FrameBench$Judge", "metType", "I", false)
  | _ => ("FrameBench$Judge", "metDepth", "I", false)
def t_Ju : Nat → FieldType := fun k => match k with
  | 0 => .object "FrameBench$Nodes"
  | 1 => .object "FrameBench$Constants"
  | 2 => .object "FrameBench$Meter"
  | 3 => .object "FrameBench$Cells"
  | 4 => .object "FrameBench$Machine"
  | 5 => .int
  | 6 => .int
  | 7 => .int
  | _ => .int
theorem n_Ju : ∀ a, a < 9 → ∀ b, b < 9 → a ≠ b → (F_Ju a).2.1 ≠ (F_Ju b).2.1 := by decide +kernel
theorem t_Ju_ok : ∀ k, k < 9 → parseFieldDescriptor (F_Ju k).2.2.1 = some (t_Ju k) := by decide +kernel
def ip_Ju : Nat → Nat := fun k => match k with
  | 0 => 375
  | 1 => 377
  | 2 => 379
  | 3 => 381
  | 4 => 383
  | 5 => 385
  | 6 => 387
  | 7 => 389
  | _ => 391
theorem ih_Ju : ∀ k, k < 9 → lw_tbl[ip_Ju k]? = some (u_lay R_Ju F_Ju k) := by decide +kernel
theorem i_Ju : ∀ w ∈ u_ws R_Ju F_Ju 9, w ∈ lw_tbl := fun w hw => by
  obtain ⟨k, hk, rfl⟩ := List.mem_map.mp hw
  exact List.mem_of_getElem? (ih_Ju k (List.mem_range.mp hk))
def R_Ma : String := "FrameBench$Machine"
def F_Ma : u_T := fun k => match k with
  | 0 => ("FrameBench$Machine", "nodes", "LFrameBench$Nodes;", true)
  | 1 => ("FrameBench$Machine", "constants", "LFrameBench$Constants;", true)
  | 2 => ("FrameBench$Machine", "meter", "LFrameBench$Meter;", true)
  | 3 => ("FrameBench$Machine", "cells", "LFrameBench$Cells;", true)
  | 4 => ("FrameBench$Machine", "shape", "I", false)
  | 5 => ("FrameBench$Machine", "shapeScope", "I", false)
  | 6 => ("FrameBench$Machine", "head", "I", false)
  | _ => ("FrameBench$Machine", "row", "I", false)
def t_Ma : Nat → FieldType := fun k => match k with
  | 0 => .object "FrameBench$Nodes"
  | 1 => .object "FrameBench$Constants"
  | 2 => .object "FrameBench$Meter"
  | 3 => .object "FrameBench$Cells"
  | 4 => .int
  | 5 => .int
  | 6 => .int
  | _ => .int
theorem n_Ma : ∀ a, a < 8 → ∀ b, b < 8 → a ≠ b → (F_Ma a).2.1 ≠ (F_Ma b).2.1 := by decide +kernel
theorem t_Ma_ok : ∀ k, k < 8 → parseFieldDescriptor (F_Ma k).2.2.1 = some (t_Ma k) := by decide +kernel
def ip_Ma : Nat → Nat := fun k => match k with
  | 0 => 343
  | 1 => 345
  | 2 => 347
  | 3 => 349
  | 4 => 351
  | 5 => 353
  | 6 => 355
  | _ => 357
theorem ih_Ma : ∀ k, k < 8 → lw_tbl[ip_Ma k]? = some (u_lay R_Ma F_Ma k) := by decide +kernel
theorem i_Ma : ∀ w ∈ u_ws R_Ma F_Ma 8, w ∈ lw_tbl := fun w hw => by
  obtain ⟨k, hk, rfl⟩ := List.mem_map.mp hw
  exact List.mem_of_getElem? (ih_Ma k (List.mem_range.mp hk))
def R_Me : String := "FrameBench$Meter"
def F_Me : u_T := fun k => match k with
  | 0 => ("FrameBench$Meter", "inAll", "I", false)
  | 1 => ("FrameBench$Meter", "ofLatest", "I", false)
  | _ => ("FrameBench$Meter", "trouble", "I", false)
def t_Me : Nat → FieldType := fun k => match k with
  | 0 => .int
  | 1 => .int
  | _ => .int
theorem n_Me : ∀ a, a < 3 → ∀ b, b < 3 → a ≠ b → (F_Me a).2.1 ≠ (F_Me b).2.1 := by decide +kernel
theorem t_Me_ok : ∀ k, k < 3 → parseFieldDescriptor (F_Me k).2.2.1 = some (t_Me k) := by decide +kernel
def ip_Me : Nat → Nat := fun k => match k with
  | 0 => 231
  | 1 => 233
  | _ => 235
theorem ih_Me : ∀ k, k < 3 → lw_tbl[ip_Me k]? = some (u_lay R_Me F_Me k) := by decide +kernel
theorem i_Me : ∀ w ∈ u_ws R_Me F_Me 3, w ∈ lw_tbl := fun w hw => by
  obtain ⟨k, hk, rfl⟩ := List.mem_map.mp hw
  exact List.mem_of_getElem? (ih_Me k (List.mem_range.mp hk))
def R_No : String := "FrameBench$Nodes"
def F_No : u_T := fun k => match k with
  | 0 => ("FrameBench$Nodes", "kinds", "[I", true)
  | 1 => ("FrameBench$Nodes", "lefts", "[I", true)
  | 2 => ("FrameBench$Nodes", "rights", "[I", true)
  | 3 => ("FrameBench$Nodes", "siblings", "[I", true)
  | 4 => ("FrameBench$Nodes", "tokens", "[I", true)
  | 5 => ("FrameBench$Nodes", "firsts", "[I", true)
  | 6 => ("FrameBench$Nodes", "places", "[I", true)
  | _ => ("FrameBench$Nodes", "top", "I", false)
def t_No : Nat → FieldType := fun k => match k with
  | 0 => .array .int
  | 1 => .array .int
  | 2 => .array .int
  | 3 => .array .int
  | 4 => .array .int
  | 5 => .array .int
  | 6 => .array .int
  | _ => .int
theorem n_No : ∀ a, a < 8 → ∀ b, b < 8 → a ≠ b → (F_No a).2.1 ≠ (F_No b).2.1 := by decide +kernel
theorem t_No_ok : ∀ k, k < 8 → parseFieldDescriptor (F_No k).2.2.1 = some (t_No k) := by decide +kernel
def ip_No : Nat → Nat := fun k => match k with
  | 0 => 173
  | 1 => 175
  | 2 => 177
  | 3 => 179
  | 4 => 181
  | 5 => 183
  | 6 => 185
  | _ => 187
theorem ih_No : ∀ k, k < 8 → lw_tbl[ip_No k]? = some (u_lay R_No F_No k) := by decide +kernel
theorem i_No : ∀ w ∈ u_ws R_No F_No 8, w ∈ lw_tbl := fun w hw => by
  obtain ⟨k, hk, rfl⟩ := List.mem_map.mp hw
  exact List.mem_of_getElem? (ih_No k (List.mem_range.mp hk))
def R_Pa : String := "FrameBench$Page"
def F_Pa : u_T := fun k => match k with
  | 0 => ("FrameBench$Page", "meter", "LFrameBench$Meter;", true)
  | 1 => ("FrameBench$Page", "signs", "[C", true)
  | 2 => ("FrameBench$Page", "draft", "[C", true)
  | 3 => ("FrameBench$Page", "length", "I", false)
  | _ => ("FrameBench$Page", "draftLength", "I", false)
def t_Pa : Nat → FieldType := fun k => match k with
  | 0 => .object "FrameBench$Meter"
  | 1 => .array .char
  | 2 => .array .char
  | 3 => .int
  | _ => .int
theorem n_Pa : ∀ a, a < 5 → ∀ b, b < 5 → a ≠ b → (F_Pa a).2.1 ≠ (F_Pa b).2.1 := by decide +kernel
theorem t_Pa_ok : ∀ k, k < 5 → parseFieldDescriptor (F_Pa k).2.2.1 = some (t_Pa k) := by decide +kernel
def ip_Pa : Nat → Nat := fun k => match k with
  | 0 => 275
  | 1 => 277
  | 2 => 279
  | 3 => 281
  | _ => 283
theorem ih_Pa : ∀ k, k < 5 → lw_tbl[ip_Pa k]? = some (u_lay R_Pa F_Pa k) := by decide +kernel
theorem i_Pa : ∀ w ∈ u_ws R_Pa F_Pa 5, w ∈ lw_tbl := fun w hw => by
  obtain ⟨k, hk, rfl⟩ := List.mem_map.mp hw
  exact List.mem_of_getElem? (ih_Pa k (List.mem_range.mp hk))
def R_Re : String := "FrameBench$Reader"
def F_Re : u_T := fun k => match k with
  | 0 => ("FrameBench$Reader", "tape", "LFrameBench$Tape;", true)
  | 1 => ("FrameBench$Reader", "nodes", "LFrameBench$Nodes;", true)
  | 2 => ("FrameBench$Reader", "constants", "LFrameBench$Constants;", true)
  | 3 => ("FrameBench$Reader", "scopePlaces", "[I", true)
  | 4 => ("FrameBench$Reader", "scopeLengths", "[I", true)
  | 5 => ("FrameBench$Reader", "scope", "I", false)
  | 6 => ("FrameBench$Reader", "parts", "I", false)
  | 7 => ("FrameBench$Reader", "fault", "I", false)
  | 8 => ("FrameBench$Reader", "namePlace", "I", false)
  | 9 => ("FrameBench$Reader", "nameLength", "I", false)
  | 10 => ("FrameBench$Reader", "typeRoot", "I", false)
  | _ => ("FrameBench$Reader", "bodyRoot", "I", false)
def t_Re : Nat → FieldType := fun k => match k with
  | 0 => .object "FrameBench$Tape"
  | 1 => .object "FrameBench$Nodes"
  | 2 => .object "FrameBench$Constants"
  | 3 => .array .int
  | 4 => .array .int
  | 5 => .int
  | 6 => .int
  | 7 => .int
  | 8 => .int
  | 9 => .int
  | 10 => .int
  | _ => .int
theorem n_Re : ∀ a, a < 12 → ∀ b, b < 12 → a ≠ b → (F_Re a).2.1 ≠ (F_Re b).2.1 := by decide +kernel
theorem t_Re_ok : ∀ k, k < 12 → parseFieldDescriptor (F_Re k).2.2.1 = some (t_Re k) := by decide +kernel
def ip_Re : Nat → Nat := fun k => match k with
  | 0 => 304
  | 1 => 306
  | 2 => 308
  | 3 => 310
  | 4 => 312
  | 5 => 314
  | 6 => 316
  | 7 => 318
  | 8 => 320
  | 9 => 322
  | 10 => 324
  | _ => 326
theorem ih_Re : ∀ k, k < 12 → lw_tbl[ip_Re k]? = some (u_lay R_Re F_Re k) := by decide +kernel
theorem i_Re : ∀ w ∈ u_ws R_Re F_Re 12, w ∈ lw_tbl := fun w hw => by
  obtain ⟨k, hk, rfl⟩ := List.mem_map.mp hw
  exact List.mem_of_getElem? (ih_Re k (List.mem_range.mp hk))
def R_Ta : String := "FrameBench$Tape"
def F_Ta : u_T := fun k => match k with
  | 0 => ("FrameBench$Tape", "signs", "[C", true)
  | 1 => ("FrameBench$Tape", "length", "I", false)
  | 2 => ("FrameBench$Tape", "token", "I", false)
  | 3 => ("FrameBench$Tape", "place", "I", false)
  | _ => ("FrameBench$Tape", "behind", "I", false)
def t_Ta : Nat → FieldType := fun k => match k with
  | 0 => .array .char
  | 1 => .int
  | 2 => .int
  | 3 => .int
  | _ => .int
theorem n_Ta : ∀ a, a < 5 → ∀ b, b < 5 → a ≠ b → (F_Ta a).2.1 ≠ (F_Ta b).2.1 := by decide +kernel
theorem t_Ta_ok : ∀ k, k < 5 → parseFieldDescriptor (F_Ta k).2.2.1 = some (t_Ta k) := by decide +kernel
def ip_Ta : Nat → Nat := fun k => match k with
  | 0 => 147
  | 1 => 149
  | 2 => 151
  | 3 => 153
  | _ => 155
theorem ih_Ta : ∀ k, k < 5 → lw_tbl[ip_Ta k]? = some (u_lay R_Ta F_Ta k) := by decide +kernel
theorem i_Ta : ∀ w ∈ u_ws R_Ta F_Ta 5, w ∈ lw_tbl := fun w hw => by
  obtain ⟨k, hk, rfl⟩ := List.mem_map.mp hw
  exact List.mem_of_getElem? (ih_Ta k (List.mem_range.mp hk))
def R_Wr : String := "FrameBench$Writer"
def F_Wr : u_T := fun k => match k with
  | 0 => ("FrameBench$Writer", "nodes", "LFrameBench$Nodes;", true)
  | 1 => ("FrameBench$Writer", "constants", "LFrameBench$Constants;", true)
  | 2 => ("FrameBench$Writer", "meter", "LFrameBench$Meter;", true)
  | 3 => ("FrameBench$Writer", "cells", "LFrameBench$Cells;", true)
  | 4 => ("FrameBench$Writer", "machine", "LFrameBench$Machine;", true)
  | 5 => ("FrameBench$Writer", "page", "LFrameBench$Page;", true)
  | _ => ("FrameBench$Writer", "xs", "I", false)
def t_Wr : Nat → FieldType := fun k => match k with
  | 0 => .object "FrameBench$Nodes"
  | 1 => .object "FrameBench$Constants"
  | 2 => .object "FrameBench$Meter"
  | 3 => .object "FrameBench$Cells"
  | 4 => .object "FrameBench$Machine"
  | 5 => .object "FrameBench$Page"
  | _ => .int
theorem n_Wr : ∀ a, a < 7 → ∀ b, b < 7 → a ≠ b → (F_Wr a).2.1 ≠ (F_Wr b).2.1 := by decide +kernel
theorem t_Wr_ok : ∀ k, k < 7 → parseFieldDescriptor (F_Wr k).2.2.1 = some (t_Wr k) := by decide +kernel
def ip_Wr : Nat → Nat := fun k => match k with
  | 0 => 438
  | 1 => 440
  | 2 => 442
  | 3 => 444
  | 4 => 446
  | 5 => 448
  | _ => 450
theorem ih_Wr : ∀ k, k < 7 → lw_tbl[ip_Wr k]? = some (u_lay R_Wr F_Wr k) := by decide +kernel
theorem i_Wr : ∀ w ∈ u_ws R_Wr F_Wr 7, w ∈ lw_tbl := fun w hw => by
  obtain ⟨k, hk, rfl⟩ := List.mem_map.mp hw
  exact List.mem_of_getElem? (ih_Wr k (List.mem_range.mp hk))
def R_Fb : String := "FrameBench"
def F_Fb : u_T := fun k => match k with
  | 0 => ("FrameBench", "tape", "LFrameBench$Tape;", true)
  | 1 => ("FrameBench", "nodes", "LFrameBench$Nodes;", true)
  | 2 => ("FrameBench", "constants", "LFrameBench$Constants;", true)
  | 3 => ("FrameBench", "meter", "LFrameBench$Meter;", true)
  | 4 => ("FrameBench", "cells", "LFrameBench$Cells;", true)
  | 5 => ("FrameBench", "page", "LFrameBench$Page;", true)
  | 6 => ("FrameBench", "reader", "LFrameBench$Reader;", true)
  | 7 => ("FrameBench", "judge", "LFrameBench$Judge;", true)
  | 8 => ("FrameBench", "checker", "LFrameBench$Checker;", true)
  | _ => ("FrameBench", "writer", "LFrameBench$Writer;", true)
def t_Fb : Nat → FieldType := fun k => match k with
  | 0 => .object "FrameBench$Tape"
  | 1 => .object "FrameBench$Nodes"
  | 2 => .object "FrameBench$Constants"
  | 3 => .object "FrameBench$Meter"
  | 4 => .object "FrameBench$Cells"
  | 5 => .object "FrameBench$Page"
  | 6 => .object "FrameBench$Reader"
  | 7 => .object "FrameBench$Judge"
  | 8 => .object "FrameBench$Checker"
  | _ => .object "FrameBench$Writer"
theorem n_Fb : ∀ a, a < 10 → ∀ b, b < 10 → a ≠ b → (F_Fb a).2.1 ≠ (F_Fb b).2.1 := by decide +kernel
theorem t_Fb_ok : ∀ k, k < 10 → parseFieldDescriptor (F_Fb k).2.2.1 = some (t_Fb k) := by decide +kernel
def ip_Fb : Nat → Nat := fun k => match k with
  | 0 => 463
  | 1 => 465
  | 2 => 467
  | 3 => 469
  | 4 => 471
  | 5 => 473
  | 6 => 475
  | 7 => 477
  | 8 => 479
  | _ => 481
theorem ih_Fb : ∀ k, k < 10 → lw_tbl[ip_Fb k]? = some (u_lay R_Fb F_Fb k) := by decide +kernel
theorem i_Fb : ∀ w ∈ u_ws R_Fb F_Fb 10, w ∈ lw_tbl := fun w hw => by
  obtain ⟨k, hk, rfl⟩ := List.mem_map.mp hw
  exact List.mem_of_getElem? (ih_Fb k (List.mem_range.mp hk))
def R_Rm : String := "FrameBenchModel"
def F_Rm : u_T := fun k => match k with
  | 0 => ("FrameBenchModel", "thrown", "I", false)
  | 1 => ("FrameBenchModel", "tape", "[I", true)
  | 2 => ("FrameBenchModel", "taped", "I", false)
  | 3 => ("FrameBenchModel", "signs", "I", false)
  | 4 => ("FrameBenchModel", "sort", "[I", true)
  | 5 => ("FrameBenchModel", "place", "[I", true)
  | 6 => ("FrameBenchModel", "first", "[J", true)
  | 7 => ("FrameBenchModel", "last", "[J", true)
  | 8 => ("FrameBenchModel", "at", "I", false)
  | 9 => ("FrameBenchModel", "fault", "I", false)
  | 10 => ("FrameBenchModel", "kind", "[I", true)
  | 11 => ("FrameBenchModel", "one", "[I", true)
  | 12 => ("FrameBenchModel", "two", "[I", true)
  | 13 => ("FrameBenchModel", "token", "[I", true)
  | 14 => ("FrameBenchModel", "signAt", "[I", true)
  | 15 => ("FrameBenchModel", "bracket", "[I", true)
  | 16 => ("FrameBenchModel", "nodes", "I", false)
  | 17 => ("FrameBenchModel", "types", "I", false)
  | 18 => ("FrameBenchModel", "deep", "I", false)
  | 19 => ("FrameBenchModel", "counted", "I", false)
  | 20 => ("FrameBenchModel", "varAt", "[I", true)
  | 21 => ("FrameBenchModel", "constants", "I", false)
  | 22 => ("FrameBenchModel", "nameA", "[J", true)
  | 23 => ("FrameBenchModel", "nameB", "[J", true)
  | 24 => ("FrameBenchModel", "isFamily", "[Z", true)
  | 25 => ("FrameBenchModel", "typeOf", "[I", true)
  | 26 => ("FrameBenchModel", "meaning", "[I", true)
  | 27 => ("FrameBenchModel", "nodesAhead", "[I", true)
  | 28 => ("FrameBenchModel", "closureNode", "[I", true)
  | 29 => ("FrameBenchModel", "closureList", "[I", true)
  | 30 => ("FrameBenchModel", "closures", "I", false)
  | 31 => ("FrameBenchModel", "listHead", "[I", true)
  | 32 => ("FrameBenchModel", "listRest", "[I", true)
  | 33 => ("FrameBenchModel", "lists", "I", false)
  | 34 => ("FrameBenchModel", "behindHead", "[I", true)
  | 35 => ("FrameBenchModel", "behindRest", "[I", true)
  | 36 => ("FrameBenchModel", "behinds", "I", false)
  | 37 => ("FrameBenchModel", "newType", "[I", true)
  | 38 => ("FrameBenchModel", "newList", "[I", true)
  | 39 => ("FrameBenchModel", "newNumber", "[I", true)
  | 40 => ("FrameBenchModel", "news", "I", false)
  | 41 => ("FrameBenchModel", "steps", "I", false)
  | 42 => ("FrameBenchModel", "latest", "I", false)
  | 43 => ("FrameBenchModel", "piF", "I", false)
  | 44 => ("FrameBenchModel", "piFList", "I", false)
  | 45 => ("FrameBenchModel", "piG", "I", false)
  | 46 => ("FrameBenchModel", "piGList", "I", false)
  | 47 => ("FrameBenchModel", "spine", "I", false)
  | 48 => ("FrameBenchModel", "spineList", "I", false)
  | 49 => ("FrameBenchModel", "putNode", "[I", true)
  | 50 => ("FrameBenchModel", "putList", "[I", true)
  | 51 => ("FrameBenchModel", "head", "I", false)
  | 52 => ("FrameBenchModel", "headBehind", "I", false)
  | 53 => ("FrameBenchModel", "questions", "I", false)
  | 54 => ("FrameBenchModel", "context", "I", false)
  | 55 => ("FrameBenchModel", "bound", "I", false)
  | 56 => ("FrameBenchModel", "boundVar", "[I", true)
  | 57 => ("FrameBenchModel", "boundType", "[I", true)
  | 58 => ("FrameBenchModel", "row", "[I", true)
  | 59 => ("FrameBenchModel", "rows", "I", false)
  | 60 => ("FrameBenchModel", "isNode", "I", false)
  | 61 => ("FrameBenchModel", "isList", "I", false)
  | 62 => ("FrameBenchModel", "told", "I", false)
  | 63 => ("FrameBenchModel", "draft", "[I", true)
  | 64 => ("FrameBenchModel", "drafts", "I", false)
  | 65 => ("FrameBenchModel", "xs", "I", false)
  | 66 => ("FrameBenchModel", "isLong", "Z", false)
  | 67 => ("FrameBenchModel", "letters", "[I", true)
  | 68 => ("FrameBenchModel", "lettersMany", "I", false)
  | 69 => ("FrameBenchModel", "out", "[I", true)
  | _ => ("FrameBenchModel", "outs", "I", false)
def t_Rm : Nat → FieldType := fun k => match k with
  | 0 => .int
  | 1 => .array .int
  | 2 => .int
  | 3 => .int
  | 4 => .array .int
  | 5 => .array .int
  | 6 => .array .long
  | 7 => .array .long
  | 8 => .int
  | 9 => .int
  | 10 => .array .int
  | 11 => .array .int
  | 12 => .array .int
  | 13 => .array .int
  | 14 => .array .int
  | 15 => .array .int
  | 16 => .int
  | 17 => .int
  | 18 => .int
  | 19 => .int
  | 20 => .array .int
  | 21 => .int
  | 22 => .array .long
  | 23 => .array .long
  | 24 => .array .boolean
  | 25 => .array .int
  | 26 => .array .int
  | 27 => .array .int
  | 28 => .array .int
  | 29 => .array .int
  | 30 => .int
  | 31 => .array .int
  | 32 => .array .int
  | 33 => .int
  | 34 => .array .int
  | 35 => .array .int
  | 36 => .int
  | 37 => .array .int
  | 38 => .array .int
  | 39 => .array .int
  | 40 => .int
  | 41 => .int
  | 42 => .int
  | 43 => .int
  | 44 => .int
  | 45 => .int
  | 46 => .int
  | 47 => .int
  | 48 => .int
  | 49 => .array .int
  | 50 => .array .int
  | 51 => .int
  | 52 => .int
  | 53 => .int
  | 54 => .int
  | 55 => .int
  | 56 => .array .int
  | 57 => .array .int
  | 58 => .array .int
  | 59 => .int
  | 60 => .int
  | 61 => .int
  | 62 => .int
  | 63 => .array .int
  | 64 => .int
  | 65 => .int
  | 66 => .boolean
  | 67 => .array .int
  | 68 => .int
  | 69 => .array .int
  | _ => .int
theorem n_Rm : ∀ a, a < 71 → ∀ b, b < 71 → a ≠ b → (F_Rm a).2.1 ≠ (F_Rm b).2.1 := by decide +kernel
theorem t_Rm_ok : ∀ k, k < 71 → parseFieldDescriptor (F_Rm k).2.2.1 = some (t_Rm k) := by decide +kernel
def ip_Rm : Nat → Nat := fun k => match k with
  | 0 => 1254
  | 1 => 1256
  | 2 => 1258
  | 3 => 1260
  | 4 => 1262
  | 5 => 1264
  | 6 => 1266
  | 7 => 1268
  | 8 => 1270
  | 9 => 1272
  | 10 => 1274
  | 11 => 1276
  | 12 => 1278
  | 13 => 1280
  | 14 => 1282
  | 15 => 1284
  | 16 => 1286
  | 17 => 1288
  | 18 => 1290
  | 19 => 1292
  | 20 => 1294
  | 21 => 1296
  | 22 => 1298
  | 23 => 1300
  | 24 => 1302
  | 25 => 1304
  | 26 => 1306
  | 27 => 1308
  | 28 => 1310
  | 29 => 1312
  | 30 => 1314
  | 31 => 1316
  | 32 => 1318
  | 33 => 1320
  | 34 => 1322
  | 35 => 1324
  | 36 => 1326
  | 37 => 1328
  | 38 => 1330
  | 39 => 1332
  | 40 => 1334
  | 41 => 1336
  | 42 => 1338
  | 43 => 1340
  | 44 => 1342
  | 45 => 1344
  | 46 => 1346
  | 47 => 1348
  | 48 => 1350
  | 49 => 1352
  | 50 => 1354
  | 51 => 1356
  | 52 => 1358
  | 53 => 1360
  | 54 => 1362
  | 55 => 1364
  | 56 => 1366
  | 57 => 1368
  | 58 => 1370
  | 59 => 1372
  | 60 => 1374
  | 61 => 1376
  | 62 => 1378
  | 63 => 1380
  | 64 => 1382
  | 65 => 1384
  | 66 => 1386
  | 67 => 1388
  | 68 => 1390
  | 69 => 1392
  | _ => 1394
theorem ih_Rm : ∀ k, k < 71 → lw_tbl[ip_Rm k]? = some (u_lay R_Rm F_Rm k) := by decide +kernel
theorem i_Rm : ∀ w ∈ u_ws R_Rm F_Rm 71, w ∈ lw_tbl := fun w hw => by
  obtain ⟨k, hk, rfl⟩ := List.mem_map.mp hw
  exact List.mem_of_getElem? (ih_Rm k (List.mem_range.mp hk))
def d_CL : List vw_C := [(R_Ce, F_Ce, 6), (R_Ck, F_Ck, 8), (R_Co, F_Co, 8), (R_Ju, F_Ju, 9), (R_Ma, F_Ma, 8), (R_Me, F_Me, 3), (R_No, F_No, 8), (R_Pa, F_Pa, 5), (R_Re, F_Re, 12), (R_Ta, F_Ta, 5), (R_Wr, F_Wr, 7), (R_Fb, F_Fb, 10), (R_Rm, F_Rm, 71)]
-- cells: 0 FrameBench; 1 FrameBench$Tape; 2 FrameBench$Tape.signs; 3 FrameBench$Nodes; 4 FrameBench$Nodes.kinds; 5 FrameBench$Nodes.lefts; 6 FrameBench$Nodes.rights; 7 FrameBench$Nodes.siblings; 8 FrameBench$Nodes.tokens; 9 FrameBench$Nodes.firsts; 10 FrameBench$Nodes.places; 11 FrameBench$Constants; 12 FrameBench$Constants.names; 13 FrameBench$Constants.nameLengths; 14 FrameBench$Constants.sorts; 15 FrameBench$Constants.types; 16 FrameBench$Constants.bodies; 17 FrameBench$Constants.floors; 18 FrameBench$Meter; 19 FrameBench$Cells; 20 FrameBench$Cells.terms; 21 FrameBench$Cells.scopes; 22 FrameBench$Cells.nexts; 23 FrameBench$Cells.binders; 24 FrameBench$Page; 25 FrameBench$Page.signs; 26 FrameBench$Page.draft; 27 FrameBench$Reader; 28 FrameBench$Reader.scopePlaces; 29 FrameBench$Reader.scopeLengths; 30 FrameBench$Machine; 31 FrameBench$Judge; 32 FrameBench$Checker; 33 FrameBench$Writer; 34 FrameBenchModel; 35 FrameBenchModel.tape; 36 FrameBenchModel.sort; 37 FrameBenchModel.place; 38 FrameBenchModel.first; 39 FrameBenchModel.last; 40 FrameBenchModel.kind; 41 FrameBenchModel.one; 42 FrameBenchModel.two; 43 FrameBenchModel.token; 44 FrameBenchModel.signAt; 45 FrameBenchModel.bracket; 46 FrameBenchModel.varAt; 47 FrameBenchModel.nameA; 48 FrameBenchModel.nameB; 49 FrameBenchModel.isFamily; 50 FrameBenchModel.typeOf; 51 FrameBenchModel.meaning; 52 FrameBenchModel.nodesAhead; 53 FrameBenchModel.closureNode; 54 FrameBenchModel.closureList; 55 FrameBenchModel.listHead; 56 FrameBenchModel.listRest; 57 FrameBenchModel.behindHead; 58 FrameBenchModel.behindRest; 59 FrameBenchModel.newType; 60 FrameBenchModel.newList; 61 FrameBenchModel.newNumber; 62 FrameBenchModel.putNode; 63 FrameBenchModel.putList; 64 FrameBenchModel.boundVar; 65 FrameBenchModel.boundType; 66 FrameBenchModel.row; 67 FrameBenchModel.draft; 68 FrameBenchModel.letters; 69 FrameBenchModel.out
def d_CT : List c_D := [.inl (11, [3, 5, 13, 20, 21, 26, 29, 33, 34, 35]), .inl (9, [4, 0, 0, 0, 0]), .inr (.char, 4000), .inl (6, [6, 7, 8, 9, 10, 11, 12, 0]), .inr (.int, 12800), .inr (.int, 12800), .inr (.int, 12800), .inr (.int, 12800), .inr (.int, 12800), .inr (.int, 12800), .inr (.int, 12800), .inl (2, [5, 14, 15, 16, 17, 18, 19, 0]), .inr (.char, 1200), .inr (.int, 100), .inr (.int, 100), .inr (.int, 100), .inr (.int, 100), .inr (.int, 100), .inl (5, [0, 0, 0]), .inl (0, [20, 22, 23, 24, 25, 0]), .inr (.int, 32768), .inr (.int, 32768), .inr (.int, 32768), .inr (.int, 32768), .inl (7, [20, 27, 28, 0, 0]), .inr (.char, 2000), .inr (.char, 2000), .inl (8, [3, 5, 13, 30, 31, 0, 0, 0, 0, 0, 0, 0]), .inr (.int, 40), .inr (.int, 40), .inl (4, [5, 13, 20, 21, 0, 0, 0, 0]), .inl (3, [5, 13, 20, 21, 32, 0, 0, 0, 0]), .inl (1, [5, 13, 20, 21, 32, 33, 0, 0]), .inl (10, [5, 13, 20, 21, 32, 26, 0]), .inl (12, [0, 37, 0, 0, 38, 39, 40, 41, 0, 0, 42, 43, 44, 45, 46, 47, 0, 0, 0, 0, 48, 0, 49, 50, 51, 52, 53, 54, 55, 56, 0, 57, 58, 0, 59, 60, 0, 61, 62, 63, 0, 0, 0, 0, 0, 0, 0, 0, 0, 64, 65, 0, 0, 0, 0, 0, 66, 67, 68, 0, 0, 0, 0, 69, 0, 0, 1, 70, 0, 71, 0]), .inr (.int, 4000), .inr (.int, 4002), .inr (.int, 4002), .inr (.long, 4002), .inr (.long, 4002), .inr (.int, 136000), .inr (.int, 136000), .inr (.int, 136000), .inr (.int, 136000), .inr (.int, 136000), .inr (.int, 136000), .inr (.int, 136000), .inr (.long, 101), .inr (.long, 101), .inr (.boolean, 101), .inr (.int, 101), .inr (.int, 101), .inr (.int, 101), .inr (.int, 400000), .inr (.int, 400000), .inr (.int, 400000), .inr (.int, 400000), .inr (.int, 400000), .inr (.int, 400000), .inr (.int, 24000), .inr (.int, 24000), .inr (.int, 24000), .inr (.int, 16000), .inr (.int, 16000), .inr (.int, 64), .inr (.int, 64), .inr (.int, 700), .inr (.int, 2000), .inr (.int, 12), .inr (.int, 2000)]
def d_FL : List (Nat × Nat × Nat × Nat) := [(0, 12, 0, 1), (0, 16, 0, 2), (0, 19, 0, 3), (0, 22, 0, 4), (0, 25, 0, 5), (0, 29, 0, 0), (1, 9, 1, 0), (1, 15, 1, 1), (1, 19, 1, 2), (1, 23, 1, 3), (1, 27, 1, 4), (1, 31, 1, 5), (1, 35, 1, 7), (1, 39, 1, 6), (2, 13, 2, 1), (2, 17, 2, 2), (2, 21, 2, 3), (2, 24, 2, 4), (2, 27, 2, 5), (2, 30, 2, 6), (2, 33, 2, 0), (2, 37, 2, 7), (3, 7, 3, 0), (3, 13, 3, 1), (3, 17, 3, 2), (3, 21, 3, 3), (3, 25, 3, 4), (3, 39, 3, 7), (3, 43, 3, 5), (3, 46, 3, 6), (3, 49, 3, 8), (4, 9, 4, 0), (4, 15, 4, 1), (4, 19, 4, 2), (4, 23, 4, 3), (4, 27, 4, 4), (4, 31, 4, 5), (4, 34, 4, 6), (4, 37, 4, 7), (5, 9, 5, 1), (5, 15, 5, 2), (5, 18, 5, 0), (6, 9, 6, 0), (6, 13, 6, 1), (6, 16, 6, 2), (6, 19, 6, 3), (6, 22, 6, 4), (6, 25, 6, 5), (6, 28, 6, 6), (6, 31, 6, 7), (7, 11, 7, 1), (7, 15, 7, 2), (7, 18, 7, 0), (7, 22, 7, 3), (7, 26, 7, 4), (8, 11, 8, 3), (8, 15, 8, 4), (8, 18, 8, 0), (8, 22, 8, 1), (8, 26, 8, 2), (8, 30, 8, 7), (8, 39, 8, 8), (8, 42, 8, 9), (8, 45, 8, 10), (8, 48, 8, 11), (8, 92, 8, 6), (8, 95, 8, 5), (9, 9, 9, 0), (9, 15, 9, 1), (9, 19, 9, 2), (9, 22, 9, 3), (9, 25, 9, 4), (10, 7, 10, 0), (10, 13, 10, 1), (10, 17, 10, 2), (10, 21, 10, 3), (10, 25, 10, 4), (10, 29, 10, 5), (10, 39, 10, 6), (11, 10, 11, 0), (11, 19, 11, 1), (11, 28, 11, 2), (11, 35, 11, 3), (11, 44, 11, 4), (11, 51, 11, 5), (11, 60, 11, 6), (11, 74, 11, 7), (11, 83, 11, 8), (11, 92, 11, 9), (12, 7, 12, 1), (12, 13, 12, 4), (12, 16, 12, 5), (12, 19, 12, 6), (12, 23, 12, 7), (12, 27, 12, 10), (12, 30, 12, 11), (12, 33, 12, 12), (12, 36, 12, 13), (12, 39, 12, 14), (12, 42, 12, 15), (12, 45, 12, 20), (12, 48, 12, 22), (12, 51, 12, 23), (12, 54, 12, 24), (12, 58, 12, 25), (12, 61, 12, 26), (12, 64, 12, 27), (12, 68, 12, 28), (12, 71, 12, 29), (12, 74, 12, 31), (12, 77, 12, 32), (12, 80, 12, 34), (12, 83, 12, 35), (12, 86, 12, 37), (12, 89, 12, 38), (12, 92, 12, 39), (12, 95, 12, 49), (12, 98, 12, 50), (12, 101, 12, 56), (12, 104, 12, 57), (12, 107, 12, 58), (12, 110, 12, 63), (12, 113, 12, 67), (12, 116, 12, 69), (12, 119, 12, 0), (12, 127, 12, 2), (12, 130, 12, 3), (12, 149, 12, 8), (12, 152, 12, 9), (12, 164, 12, 16), (12, 167, 12, 17), (12, 170, 12, 18), (12, 173, 12, 19), (12, 214, 12, 21), (12, 217, 12, 30), (12, 220, 12, 33), (12, 223, 12, 36), (12, 226, 12, 40), (12, 233, 12, 42), (12, 236, 12, 41), (12, 243, 12, 54), (12, 246, 12, 55), (12, 263, 12, 47), (12, 266, 12, 48), (12, 269, 12, 43), (12, 272, 12, 44), (12, 275, 12, 45), (12, 278, 12, 46), (12, 284, 12, 51), (12, 287, 12, 52), (12, 290, 12, 53), (12, 363, 12, 59), (12, 369, 12, 60), (12, 372, 12, 61), (12, 379, 12, 62), (12, 410, 12, 64), (12, 413, 12, 66), (12, 423, 12, 65), (12, 429, 12, 68), (12, 467, 12, 70)]
def d_ML : List (Nat × Nat × Nat × Nat × Nat × Nat × Nat × Nat) := [(0, 33, 165, 0, 0, 2, 0, 5), (0, 39, 104, 0, 0, 3, 1, 0), (0, 43, 109, 0, 0, 3, 0, 0), (0, 47, 107, 0, 0, 2, 1, 0), (0, 51, 110, 0, 0, 4, 1, 0), (1, 42, 121, 0, 0, 4, 1, 1), (1, 48, 126, 0, 0, 5, 0, 1), (1, 52, 127, 0, 0, 3, 0, 1), (1, 56, 15, 1, 1, 2, 1, 0), (1, 60, 166, 0, 0, 1, 1, 5), (1, 66, 164, 0, 0, 1, 1, 5), (1, 70, 119, 0, 0, 3, 0, 1), (1, 73, 102, 0, 0, 1, 1, 0), (1, 80, 172, 0, 0, 2, 1, 6), (1, 84, 176, 0, 0, 2, 1, 6), (1, 87, 120, 0, 0, 2, 1, 1), (1, 90, 173, 0, 0, 2, 1, 6), (1, 93, 122, 0, 0, 3, 1, 1), (1, 96, 174, 0, 0, 2, 1, 6), (1, 99, 123, 0, 0, 3, 0, 1), (1, 102, 103, 0, 0, 2, 0, 0), (1, 106, 111, 0, 0, 4, 1, 0), (1, 110, 113, 0, 0, 4, 1, 0), (1, 113, 179, 0, 0, 2, 1, 6), (1, 116, 178, 0, 0, 2, 1, 6), (1, 119, 124, 0, 0, 2, 1, 1), (1, 122, 177, 0, 0, 2, 1, 6), (1, 125, 183, 0, 0, 3, 0, 6), (1, 128, 125, 0, 0, 4, 0, 1), (1, 132, 132, 0, 0, 2, 1, 2), (1, 134, 133, 0, 0, 2, 1, 2), (1, 137, 157, 0, 0, 4, 1, 4), (1, 142, 107, 0, 0, 2, 1, 0), (1, 145, 110, 0, 0, 4, 1, 0), (1, 148, 175, 0, 0, 2, 1, 6), (1, 151, 147, 0, 0, 6, 1, 3), (1, 157, 129, 0, 0, 3, 0, 1), (1, 160, 128, 0, 0, 2, 0, 1), (1, 163, 158, 0, 0, 3, 0, 4), (1, 166, 151, 0, 0, 1, 1, 4), (1, 169, 152, 0, 0, 1, 1, 4), (1, 172, 180, 0, 0, 2, 1, 6), (2, 41, 133, 0, 0, 2, 1, 2), (2, 47, 172, 0, 0, 2, 1, 6), (2, 50, 174, 0, 0, 2, 1, 6), (2, 53, 215, 0, 0, 2, 1, 9), (2, 56, 169, 0, 0, 2, 0, 6), (2, 60, 136, 0, 0, 2, 1, 2), (2, 63, 142, 0, 0, 4, 1, 2), (2, 67, 137, 0, 0, 3, 1, 2), (2, 71, 144, 0, 0, 2, 1, 2), (2, 75, 145, 0, 0, 3, 1, 2), (2, 79, 17, 1, 1, 1, 1, 0), (3, 29, 104, 0, 0, 3, 1, 0), (3, 35, 149, 0, 0, 5, 1, 3), (3, 52, 148, 0, 0, 5, 1, 3), (3, 57, 167, 0, 0, 2, 1, 5), (3, 61, 158, 0, 0, 3, 0, 4), (3, 67, 151, 0, 0, 1, 1, 4), (3, 71, 152, 0, 0, 1, 1, 4), (3, 74, 180, 0, 0, 2, 1, 6), (3, 79, 102, 0, 0, 1, 1, 0), (3, 82, 173, 0, 0, 2, 1, 6), (3, 86, 147, 0, 0, 6, 1, 3), (3, 90, 103, 0, 0, 2, 0, 0), (3, 94, 111, 0, 0, 4, 1, 0), (3, 98, 113, 0, 0, 4, 1, 0), (3, 101, 174, 0, 0, 2, 1, 6), (3, 104, 172, 0, 0, 2, 1, 6), (3, 107, 133, 0, 0, 2, 1, 2), (3, 112, 157, 0, 0, 4, 1, 4), (3, 116, 107, 0, 0, 2, 1, 0), (3, 119, 164, 0, 0, 1, 1, 5), (3, 122, 114, 0, 0, 3, 1, 0), (3, 125, 105, 0, 0, 2, 1, 0), (3, 128, 106, 0, 0, 2, 1, 0), (3, 131, 159, 0, 0, 4, 1, 4), (3, 135, 153, 0, 0, 1, 1, 4), (3, 138, 154, 0, 0, 1, 1, 4), (3, 141, 155, 0, 0, 1, 1, 4), (3, 144, 150, 0, 0, 3, 1, 3), (4, 40, 105, 0, 0, 2, 1, 0), (4, 44, 133, 0, 0, 2, 1, 2), (4, 49, 106, 0, 0, 2, 1, 0), (4, 52, 174, 0, 0, 2, 1, 6), (4, 57, 172, 0, 0, 2, 1, 6), (4, 60, 173, 0, 0, 2, 1, 6), (4, 63, 115, 0, 0, 3, 1, 0), (4, 67, 104, 0, 0, 3, 1, 0), (4, 70, 109, 0, 0, 3, 0, 0), (4, 74, 175, 0, 0, 2, 1, 6), (4, 78, 157, 0, 0, 4, 1, 4), (4, 82, 108, 0, 0, 2, 1, 0), (4, 85, 107, 0, 0, 2, 1, 0), (4, 88, 180, 0, 0, 2, 1, 6), (4, 92, 110, 0, 0, 4, 1, 0), (4, 95, 166, 0, 0, 1, 1, 5), (4, 101, 160, 0, 0, 2, 1, 4), (4, 104, 134, 0, 0, 2, 1, 2), (4, 107, 164, 0, 0, 1, 1, 5), (4, 111, 132, 0, 0, 2, 1, 2), (5, 22, 165, 0, 0, 2, 0, 5), (5, 26, 166, 0, 0, 1, 1, 5), (6, 35, 178, 0, 0, 2, 1, 6), (6, 39, 177, 0, 0, 2, 1, 6), (6, 42, 172, 0, 0, 2, 1, 6), (7, 29, 165, 0, 0, 2, 0, 5), (7, 35, 164, 0, 0, 1, 1, 5), (8, 34, 220, 0, 0, 1, 0, 9), (8, 51, 197, 0, 0, 1, 0, 8), (8, 54, 198, 0, 0, 2, 0, 8), (8, 58, 200, 0, 0, 1, 1, 8), (8, 62, 216, 0, 0, 1, 1, 9), (8, 65, 221, 0, 0, 1, 0, 9), (8, 68, 217, 0, 0, 1, 1, 9), (8, 71, 218, 0, 0, 1, 1, 9), (8, 74, 199, 0, 0, 2, 1, 8), (8, 78, 141, 0, 0, 4, 1, 2), (8, 84, 131, 0, 0, 1, 1, 2), (8, 88, 15, 1, 1, 2, 1, 0), (8, 98, 201, 0, 0, 2, 1, 8), (8, 101, 206, 0, 0, 1, 1, 8), (8, 104, 202, 0, 0, 2, 1, 8), (8, 107, 203, 0, 0, 2, 1, 8), (8, 110, 207, 0, 0, 1, 1, 8), (8, 113, 210, 0, 0, 3, 0, 8), (8, 117, 211, 0, 0, 1, 0, 8), (8, 122, 209, 0, 0, 6, 1, 8), (8, 126, 204, 0, 0, 2, 1, 8), (8, 129, 205, 0, 0, 2, 1, 8), (8, 132, 182, 0, 0, 3, 0, 6), (8, 135, 178, 0, 0, 2, 1, 6), (8, 137, 181, 0, 0, 3, 0, 6), (8, 140, 208, 0, 0, 2, 1, 8), (8, 148, 223, 0, 0, 4, 1, 9), (8, 152, 170, 0, 0, 1, 1, 6), (8, 153, 171, 0, 0, 6, 1, 6), (9, 28, 221, 0, 0, 1, 0, 9), (9, 31, 215, 0, 0, 2, 1, 9), (9, 35, 224, 0, 1, 1, 1, 0), (9, 39, 16, 1, 1, 1, 1, 0), (9, 44, 222, 0, 0, 1, 0, 9), (9, 47, 225, 0, 1, 1, 1, 0), (9, 50, 17, 1, 1, 1, 1, 0), (10, 33, 143, 0, 0, 1, 1, 2), (10, 43, 186, 0, 0, 1, 0, 7), (10, 48, 227, 0, 0, 5, 0, 10), (10, 52, 104, 0, 0, 3, 1, 0), (10, 58, 229, 0, 0, 7, 0, 10), (10, 62, 164, 0, 0, 1, 1, 5), (10, 67, 188, 0, 0, 1, 0, 7), (10, 70, 167, 0, 0, 2, 1, 5), (10, 74, 158, 0, 0, 3, 0, 4), (10, 80, 151, 0, 0, 1, 1, 4), (10, 83, 152, 0, 0, 1, 1, 4), (10, 86, 180, 0, 0, 2, 1, 6), (10, 91, 187, 0, 0, 2, 0, 7), (10, 95, 173, 0, 0, 2, 1, 6), (10, 99, 228, 0, 0, 5, 0, 10), (10, 102, 111, 0, 0, 4, 1, 0), (10, 106, 113, 0, 0, 4, 1, 0), (10, 109, 174, 0, 0, 2, 1, 6), (10, 112, 232, 0, 0, 2, 0, 10), (10, 115, 133, 0, 0, 2, 1, 2), (10, 118, 157, 0, 0, 4, 1, 4), (10, 121, 231, 0, 0, 6, 0, 10), (10, 125, 102, 0, 0, 1, 1, 0), (10, 128, 233, 0, 0, 2, 0, 10), (10, 131, 103, 0, 0, 2, 0, 0), (10, 134, 114, 0, 0, 3, 1, 0), (10, 137, 105, 0, 0, 2, 1, 0), (10, 140, 106, 0, 0, 2, 1, 0), (10, 143, 159, 0, 0, 4, 1, 4), (10, 147, 154, 0, 0, 1, 1, 4), (10, 150, 153, 0, 0, 1, 1, 4), (10, 153, 230, 0, 0, 2, 0, 10), (10, 156, 155, 0, 0, 1, 1, 4), (10, 159, 156, 0, 0, 1, 1, 4), (10, 162, 112, 0, 0, 2, 1, 0), (10, 166, 107, 0, 0, 2, 1, 0), (10, 169, 110, 0, 0, 4, 1, 0), (10, 172, 136, 0, 0, 2, 1, 2), (10, 175, 137, 0, 0, 3, 1, 2), (11, 96, 212, 0, 0, 2, 0, 9), (11, 100, 213, 0, 0, 1, 1, 9), (11, 104, 11, 0, 0, 1, 0, 11), (11, 107, 219, 0, 0, 1, 1, 9), (11, 111, 168, 0, 0, 1, 1, 6), (11, 114, 195, 0, 0, 1, 1, 8), (11, 117, 193, 0, 0, 1, 1, 8), (11, 120, 194, 0, 0, 1, 1, 8), (11, 123, 117, 0, 0, 3, 1, 1), (11, 126, 191, 0, 0, 1, 1, 8), (11, 129, 192, 0, 0, 1, 1, 8), (11, 132, 138, 0, 0, 4, 0, 2), (11, 136, 116, 0, 0, 1, 1, 1), (11, 139, 139, 0, 0, 5, 0, 2), (11, 143, 169, 0, 0, 2, 0, 6), (11, 147, 214, 0, 0, 1, 0, 9), (11, 150, 12, 0, 0, 2, 1, 11), (11, 154, 196, 0, 0, 2, 1, 8), (11, 158, 190, 0, 0, 1, 1, 8), (11, 161, 118, 0, 0, 2, 1, 1), (11, 164, 13, 0, 0, 3, 1, 11), (11, 167, 220, 0, 0, 1, 0, 9), (11, 170, 216, 0, 0, 1, 1, 9), (11, 173, 217, 0, 0, 1, 1, 9), (11, 176, 218, 0, 0, 1, 1, 9), (11, 179, 141, 0, 0, 4, 1, 2), (11, 183, 221, 0, 0, 1, 0, 9), (11, 186, 130, 0, 0, 1, 1, 2), (11, 189, 132, 0, 0, 2, 1, 2), (11, 191, 135, 0, 0, 2, 1, 2), (11, 194, 184, 0, 0, 1, 1, 7), (11, 195, 185, 0, 0, 2, 1, 7), (11, 198, 140, 0, 0, 2, 0, 2), (11, 201, 162, 0, 0, 1, 1, 5), (11, 204, 163, 0, 0, 1, 1, 5), (11, 207, 161, 0, 0, 1, 0, 5), (11, 208, 103, 0, 0, 2, 0, 0), (11, 209, 189, 0, 0, 1, 0, 8), (11, 210, 226, 0, 0, 3, 0, 10), (11, 214, 14, 0, 0, 1, 1, 11), (11, 217, 147, 0, 0, 6, 1, 3), (11, 221, 146, 0, 0, 3, 1, 3), (11, 225, 164, 0, 0, 1, 1, 5), (11, 228, 15, 0, 1, 2, 1, 0), (12, 123, 19, 0, 0, 2, 0, 12), (12, 133, 20, 0, 1, 1, 1, 0), (12, 137, 21, 0, 1, 1, 1, 0), (12, 142, 22, 0, 1, 1, 1, 0), (12, 146, 23, 0, 1, 1, 1, 0), (12, 157, 26, 0, 0, 2, 1, 12), (12, 160, 25, 0, 0, 3, 0, 12), (12, 176, 36, 0, 0, 1, 1, 12), (12, 180, 35, 0, 0, 1, 1, 12), (12, 184, 32, 0, 0, 1, 0, 12), (12, 187, 37, 0, 0, 2, 1, 12), (12, 191, 38, 0, 0, 1, 1, 12), (12, 194, 33, 0, 0, 1, 0, 12), (12, 197, 28, 0, 0, 1, 1, 12), (12, 200, 29, 0, 0, 2, 0, 12), (12, 204, 30, 0, 0, 6, 1, 12), (12, 208, 39, 0, 0, 1, 1, 12), (12, 211, 27, 0, 0, 1, 1, 12), (12, 229, 41, 0, 0, 3, 1, 12), (12, 240, 45, 0, 0, 1, 1, 12), (12, 250, 24, 0, 0, 1, 0, 12), (12, 253, 50, 0, 0, 3, 1, 12), (12, 256, 42, 0, 0, 3, 1, 12), (12, 259, 49, 0, 0, 3, 1, 12), (12, 281, 43, 0, 0, 3, 1, 12), (12, 293, 53, 0, 0, 1, 1, 12), (12, 296, 55, 0, 0, 5, 1, 12), (12, 300, 48, 0, 0, 3, 1, 12), (12, 303, 57, 0, 0, 5, 1, 12), (12, 306, 54, 0, 0, 5, 1, 12), (12, 309, 44, 0, 0, 4, 1, 12), (12, 313, 56, 0, 0, 3, 1, 12), (12, 316, 58, 0, 0, 5, 1, 12), (12, 319, 60, 0, 0, 7, 1, 12), (12, 323, 59, 0, 0, 3, 1, 12), (12, 326, 61, 0, 0, 7, 1, 12), (12, 329, 51, 0, 0, 3, 1, 12), (12, 332, 52, 0, 0, 2, 1, 12), (12, 335, 62, 0, 0, 5, 1, 12), (12, 338, 46, 0, 0, 2, 0, 12), (12, 341, 40, 0, 0, 2, 1, 12), (12, 344, 68, 0, 0, 3, 0, 12), (12, 348, 64, 0, 0, 2, 0, 12), (12, 351, 65, 0, 0, 1, 0, 12), (12, 354, 69, 0, 0, 2, 0, 12), (12, 357, 66, 0, 0, 2, 0, 12), (12, 360, 67, 0, 0, 2, 1, 12), (12, 366, 71, 0, 0, 2, 0, 12), (12, 375, 63, 0, 0, 6, 0, 12), (12, 382, 73, 0, 0, 2, 0, 12), (12, 385, 74, 0, 0, 2, 0, 12), (12, 388, 72, 0, 0, 2, 0, 12), (12, 391, 31, 0, 0, 4, 1, 12), (12, 394, 70, 0, 0, 4, 0, 12), (12, 398, 75, 0, 0, 2, 0, 12), (12, 401, 47, 0, 0, 1, 0, 12), (12, 404, 77, 0, 0, 1, 0, 12), (12, 407, 34, 0, 0, 1, 1, 12), (12, 417, 79, 0, 1, 1, 1, 0), (12, 420, 78, 0, 0, 2, 0, 12), (12, 426, 83, 0, 0, 2, 1, 12), (12, 432, 84, 0, 0, 2, 0, 12), (12, 435, 81, 0, 0, 2, 0, 12), (12, 438, 85, 0, 0, 2, 1, 12), (12, 441, 86, 0, 0, 4, 1, 12), (12, 444, 80, 0, 0, 2, 0, 12), (12, 447, 87, 0, 0, 5, 1, 12), (12, 450, 88, 0, 0, 7, 1, 12), (12, 454, 89, 0, 0, 5, 1, 12), (12, 458, 90, 0, 0, 5, 1, 12), (12, 461, 91, 0, 0, 1, 1, 12), (12, 464, 82, 0, 0, 1, 0, 12), (12, 470, 92, 0, 0, 2, 1, 12)]
def d_KI : List (Nat × Nat × Int32) := [(0, 11, 32768), (3, 115, 32768), (4, 77, 1000000), (5, 21, 60000), (10, 165, 32768), (12, 239, 60000), (12, 249, 120000)]
def d_KL : List (Nat × Nat × Int64) := [(9, 13, 255), (12, 140, 64), (12, 155, 5346309)]
abbrev c_M0 : Type := List (Nat × c_E) × List (Nat × List Nat) × Nat × Nat × MethodName × ByteArray × Nat × Option FieldType
def d_nm (k : Nat) : String := match c_nth d_CL k with
  | some q => q.1
  | none => ""
def d_fn (c k : Nat) : String × String × String × Bool := match c_nth d_CL c with
  | some q => q.2.1 k
  | none => ("", "", "", false)
def d_fN (c : Nat) : Nat := match c_nth d_CL c with
  | some q => q.2.2
  | none => 0
def ck_fl (q : Nat × Nat × Nat × Nat) : Bool := decide (q.2.2.2 < d_fN q.2.2.1) && decide ((d_fn q.2.2.1 q.2.2.2).1 = d_nm q.2.2.1)
set_option maxRecDepth 100000 in
theorem k_fl : ∀ q ∈ d_FL, ck_fl q = true := by decide +kernel
set_option maxRecDepth 100000 in
theorem k_ki : ∀ q ∈ d_KI, Cond.constant (d_nm q.1) q.2.1 q.2.2 ∈ lw_tbl := by decide +kernel
set_option maxRecDepth 100000 in
theorem k_kl : ∀ q ∈ d_KL, Cond.constantLong (d_nm q.1) q.2.1 q.2.2 ∈ lw_tbl := by decide +kernel
def lw_g : List Cond := lw_tbl.filter goodWord
theorem lw_g_of {w : Cond} (h : w ∈ lw_tbl) (hg : goodWord w = true) : w ∈ lw_g := List.mem_filter.mpr ⟨h, hg⟩
theorem lw_g_good {w : Cond} (h : w ∈ lw_g) : goodWord w = true := (List.mem_filter.mp h).2
/-- what an object's slots hold, by its class -/
def ck_ct (q : c_D) : Bool := match q with
  | .inl (ci, sl) => decide (ci < 13) && decide (sl.length = d_fN ci) && (List.range sl.length).all (fun j => match c_nth sl j with
    | some 0 => decide ((d_fn ci j).2.2.1 = "I") && !(d_fn ci j).2.2.2
    | some 1 => decide ((d_fn ci j).2.2.1 = "Z") && !(d_fn ci j).2.2.2
    | some (n + 2) => decide (n < d_CT.length)
    | none => false)
  | .inr (ty, _) => decide (ty = .int ∨ ty = .char ∨ ty = .boolean ∨ ty = .long)
theorem k_ct : ∀ q ∈ d_CT, ck_ct q = true := by decide +kernel
