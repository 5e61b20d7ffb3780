/-! printed by wip/tools/mk_tables.py: names, fields, pools, methods -/
def q_TPW : u_T := fun k => match k with
  | 0 => ("PatternWalk", "text", "[C", true)
  | 1 => ("PatternWalk", "length", "I", false)
  | 2 => ("PatternWalk", "errorAt", "I", false)
  | 3 => ("PatternWalk", "sets", "LPatternWalk$CharSets;", true)
  | 4 => ("PatternWalk", "parser", "LPatternWalk$Parser;", true)
  | 5 => ("PatternWalk", "program", "LPatternWalk$Program;", true)
  | _ => ("PatternWalk", "walk", "LPatternWalk$Walk;", true)
def q_YPW : Nat → FieldType := fun k => match k with
  | 0 => .array .char
  | 1 => .int
  | 2 => .int
  | 3 => .object "PatternWalk$CharSets"
  | 4 => .object "PatternWalk$Parser"
  | 5 => .object "PatternWalk$Program"
  | _ => .object "PatternWalk$Walk"
def q_TCs : u_T := fun k => match k with
  | 0 => ("PatternWalk$CharSets", "bits", "[J", true)
  | _ => ("PatternWalk$CharSets", "used", "I", false)
def q_YCs : Nat → FieldType := fun k => match k with
  | 0 => .array .long
  | _ => .int
def q_TPa : u_T := fun k => match k with
  | 0 => ("PatternWalk$Parser", "text", "[C", true)
  | 1 => ("PatternWalk$Parser", "sets", "LPatternWalk$CharSets;", true)
  | 2 => ("PatternWalk$Parser", "length", "I", false)
  | 3 => ("PatternWalk$Parser", "at", "I", false)
  | 4 => ("PatternWalk$Parser", "groups", "I", false)
  | _ => ("PatternWalk$Parser", "error", "I", false)
def q_YPa : Nat → FieldType := fun k => match k with
  | 0 => .array .char
  | 1 => .object "PatternWalk$CharSets"
  | 2 => .int
  | 3 => .int
  | 4 => .int
  | _ => .int
def q_TPr : u_T := fun k => match k with
  | 0 => ("PatternWalk$Program", "kinds", "[I", true)
  | 1 => ("PatternWalk$Program", "xs", "[I", true)
  | 2 => ("PatternWalk$Program", "ys", "[I", true)
  | 3 => ("PatternWalk$Program", "size", "I", false)
  | _ => ("PatternWalk$Program", "numbered", "I", false)
def q_YPr : Nat → FieldType := fun k => match k with
  | 0 => .array .int
  | 1 => .array .int
  | 2 => .array .int
  | 3 => .int
  | _ => .int
def q_TRp : u_T := fun k => match k with
  | 0 => ("PatternWalk$Repeat", "set", "I", false)
  | 1 => ("PatternWalk$Repeat", "inner", "LPatternWalk$Row;", false)
  | 2 => ("PatternWalk$Repeat", "number", "I", false)
  | 3 => ("PatternWalk$Repeat", "atomSize", "I", false)
  | 4 => ("PatternWalk$Repeat", "least", "I", false)
  | 5 => ("PatternWalk$Repeat", "most", "I", false)
  | 6 => ("PatternWalk$Repeat", "endless", "Z", false)
  | 7 => ("PatternWalk$Repeat", "plus", "Z", false)
  | 8 => ("PatternWalk$Repeat", "lazy", "Z", false)
  | _ => ("PatternWalk$Repeat", "next", "LPatternWalk$Repeat;", false)
def q_YRp : Nat → FieldType := fun k => match k with
  | 0 => .int
  | 1 => .object "PatternWalk$Row"
  | 2 => .int
  | 3 => .int
  | 4 => .int
  | 5 => .int
  | 6 => .boolean
  | 7 => .boolean
  | 8 => .boolean
  | _ => .object "PatternWalk$Repeat"
def q_TRw : u_T := fun k => match k with
  | 0 => ("PatternWalk$Row", "first", "LPatternWalk$Repeat;", false)
  | 1 => ("PatternWalk$Row", "last", "LPatternWalk$Repeat;", false)
  | 2 => ("PatternWalk$Row", "next", "LPatternWalk$Row;", false)
  | _ => ("PatternWalk$Row", "size", "I", false)
def q_YRw : Nat → FieldType := fun k => match k with
  | 0 => .object "PatternWalk$Repeat"
  | 1 => .object "PatternWalk$Repeat"
  | 2 => .object "PatternWalk$Row"
  | _ => .int
def q_TWk : u_T := fun k => match k with
  | 0 => ("PatternWalk$Walk", "program", "LPatternWalk$Program;", true)
  | 1 => ("PatternWalk$Walk", "sets", "LPatternWalk$CharSets;", true)
  | 2 => ("PatternWalk$Walk", "now", "LPatternWalk$Ways;", false)
  | 3 => ("PatternWalk$Walk", "before", "LPatternWalk$Ways;", false)
  | 4 => ("PatternWalk$Walk", "cameAt", "[I", true)
  | 5 => ("PatternWalk$Walk", "stack", "[I", true)
  | 6 => ("PatternWalk$Walk", "oldMarks", "[I", true)
  | 7 => ("PatternWalk$Walk", "height", "I", false)
  | 8 => ("PatternWalk$Walk", "marks", "[I", true)
  | 9 => ("PatternWalk$Walk", "foundMarks", "[I", true)
  | 10 => ("PatternWalk$Walk", "begun", "Z", false)
  | 11 => ("PatternWalk$Walk", "searching", "Z", false)
  | 12 => ("PatternWalk$Walk", "found", "Z", false)
  | 13 => ("PatternWalk$Walk", "cut", "Z", false)
  | _ => ("PatternWalk$Walk", "place", "I", false)
def q_YWk : Nat → FieldType := fun k => match k with
  | 0 => .object "PatternWalk$Program"
  | 1 => .object "PatternWalk$CharSets"
  | 2 => .object "PatternWalk$Ways"
  | 3 => .object "PatternWalk$Ways"
  | 4 => .array .int
  | 5 => .array .int
  | 6 => .array .int
  | 7 => .int
  | 8 => .array .int
  | 9 => .array .int
  | 10 => .boolean
  | 11 => .boolean
  | 12 => .boolean
  | 13 => .boolean
  | _ => .int
def q_TWy : u_T := fun k => match k with
  | 0 => ("PatternWalk$Ways", "takes", "[I", true)
  | 1 => ("PatternWalk$Ways", "marks", "[I", true)
  | _ => ("PatternWalk$Ways", "count", "I", false)
def q_YWy : Nat → FieldType := fun k => match k with
  | 0 => .array .int
  | 1 => .array .int
  | _ => .int
def q_TMd : u_T := fun k => match k with
  | 0 => ("PatternWalkModel", "thrown", "I", false)
  | 1 => ("PatternWalkModel", "size", "I", false)
  | 2 => ("PatternWalkModel", "text", "[C", true)
  | 3 => ("PatternWalkModel", "error", "I", false)
  | 4 => ("PatternWalkModel", "nodes", "I", false)
  | 5 => ("PatternWalkModel", "kind", "[I", true)
  | 6 => ("PatternWalkModel", "first", "[I", true)
  | 7 => ("PatternWalkModel", "last", "[I", true)
  | 8 => ("PatternWalkModel", "next", "[I", true)
  | 9 => ("PatternWalkModel", "a", "[I", true)
  | 10 => ("PatternWalkModel", "least", "[I", true)
  | 11 => ("PatternWalkModel", "most", "[I", true)
  | 12 => ("PatternWalkModel", "lazy", "[Z", true)
  | 13 => ("PatternWalkModel", "wide", "[I", true)
  | 14 => ("PatternWalkModel", "p", "I", false)
  | 15 => ("PatternWalkModel", "depth", "I", false)
  | 16 => ("PatternWalkModel", "openRepeat", "[I", true)
  | 17 => ("PatternWalkModel", "openChoice", "[I", true)
  | 18 => ("PatternWalkModel", "openRow", "[I", true)
  | 19 => ("PatternWalkModel", "numbers", "I", false)
  | 20 => ("PatternWalkModel", "sets", "I", false)
  | 21 => ("PatternWalkModel", "bits", "[I", true)
  | 22 => ("PatternWalkModel", "length", "I", false)
  | 23 => ("PatternWalkModel", "code", "[I", true)
  | 24 => ("PatternWalkModel", "x", "[I", true)
  | 25 => ("PatternWalkModel", "y", "[I", true)
  | 26 => ("PatternWalkModel", "tasks", "I", false)
  | 27 => ("PatternWalkModel", "taskNode", "[I", true)
  | 28 => ("PatternWalkModel", "taskAt", "[I", true)
  | 29 => ("PatternWalkModel", "begun", "Z", false)
  | 30 => ("PatternWalkModel", "search", "Z", false)
  | 31 => ("PatternWalkModel", "fed", "I", false)
  | 32 => ("PatternWalkModel", "word", "[I", true)
  | 33 => ("PatternWalkModel", "known", "Z", false)
  | 34 => ("PatternWalkModel", "matched", "Z", false)
  | 35 => ("PatternWalkModel", "can", "[I", true)
  | 36 => ("PatternWalkModel", "marks", "[I", true)
  | 37 => ("PatternWalkModel", "live", "[Z", true)
  | 38 => ("PatternWalkModel", "here", "[Z", true)
  | 39 => ("PatternWalkModel", "there", "[Z", true)
  | 40 => ("PatternWalkModel", "piled", "I", false)
  | 41 => ("PatternWalkModel", "pile", "[I", true)
  | 42 => ("PatternWalkModel", "from", "[I", true)
  | 43 => ("PatternWalkModel", "seen", "[Z", true)
  | _ => ("PatternWalkModel", "parent", "[I", true)
def q_YMd : Nat → FieldType := fun k => match k with
  | 0 => .int
  | 1 => .int
  | 2 => .array .char
  | 3 => .int
  | 4 => .int
  | 5 => .array .int
  | 6 => .array .int
  | 7 => .array .int
  | 8 => .array .int
  | 9 => .array .int
  | 10 => .array .int
  | 11 => .array .int
  | 12 => .array .boolean
  | 13 => .array .int
  | 14 => .int
  | 15 => .int
  | 16 => .array .int
  | 17 => .array .int
  | 18 => .array .int
  | 19 => .int
  | 20 => .int
  | 21 => .array .int
  | 22 => .int
  | 23 => .array .int
  | 24 => .array .int
  | 25 => .array .int
  | 26 => .int
  | 27 => .array .int
  | 28 => .array .int
  | 29 => .boolean
  | 30 => .boolean
  | 31 => .int
  | 32 => .array .int
  | 33 => .boolean
  | 34 => .boolean
  | 35 => .array .int
  | 36 => .array .int
  | 37 => .array .boolean
  | 38 => .array .boolean
  | 39 => .array .boolean
  | 40 => .int
  | 41 => .array .int
  | 42 => .array .int
  | 43 => .array .boolean
  | _ => .array .int
def q_cl : List vw_C := [("PatternWalk", q_TPW, 7), ("PatternWalk$CharSets", q_TCs, 2), ("PatternWalk$Parser", q_TPa, 6), ("PatternWalk$Program", q_TPr, 5), ("PatternWalk$Repeat", q_TRp, 10), ("PatternWalk$Row", q_TRw, 4), ("PatternWalk$Walk", q_TWk, 15), ("PatternWalk$Ways", q_TWy, 3), ("PatternWalkModel", q_TMd, 45)]
/-- a row of a pool by its number -/
def q_lk {α : Type} : List (Nat × α) → Nat → Option α
  | [], _ => none
  | (i, a) :: t, k => if k = i then some a else q_lk t k
theorem q_lk_mem {α : Type} {k : Nat} {a : α} : ∀ {l : List (Nat × α)}, q_lk l k = some a → (k, a) ∈ l
  | [], h => by cases h
  | (i, b) :: t, h => by
    unfold q_lk at h
    split at h
    · rename_i e; cases h; subst e; exact List.mem_cons_self
    · exact List.mem_cons_of_mem _ (q_lk_mem h)
def q_FPW : List (Nat × Nat × Nat × FieldType × Nat) := [(83, 2, 4, .int, 0), (67, 2, 5, .int, 0), (90, 3, 3, .int, 0), (116, 3, 4, .int, 0), (141, 7, 2, .int, 0), (137, 6, 2, .object "PatternWalk$Ways", 0), (123, 6, 10, .boolean, 0), (134, 6, 12, .boolean, 0), (127, 6, 14, .int, 0), (9, 0, 0, .array .char, 1), (13, 0, 1, .int, 0), (17, 0, 2, .int, 0), (23, 0, 3, .object "PatternWalk$CharSets", 1), (32, 0, 4, .object "PatternWalk$Parser", 1), (39, 0, 5, .object "PatternWalk$Program", 1), (48, 0, 6, .object "PatternWalk$Walk", 1)]
def q_CPW : List (Nat × ((Nat × List Value) ⊕ Nat)) := [(20, .inl (1, [.null, .int 0])), (27, .inl (2, [.null, .null, .int 0, .int 0, .int 0, .int 0])), (36, .inl (3, [.null, .null, .null, .int 0, .int 0])), (43, .inl (6, [.null, .null, .null, .null, .null, .null, .null, .int 0, .null, .null, .int 0, .int 0, .int 0, .int 0, .int 0])), (56, .inr 2), (70, .inr 1)]
def q_MPW : List (Nat × Nat × Nat × Nat × Nat) := [(3, 0, 0, 0, 0), (22, 3, 14, 0, 0), (29, 3, 22, 2, 0), (38, 3, 40, 0, 0), (45, 3, 58, 2, 0), (52, 1, 41, 0, 3), (93, 1, 42, 0, 3), (96, 1, 59, 0, 6), (99, 1, 43, 1, 3), (103, 1, 44, 1, 3), (107, 1, 45, 1, 3), (110, 1, 15, 1, 1), (113, 1, 46, 1, 3), (119, 1, 60, 1, 6), (130, 1, 68, 1, 6), (145, 1, 69, 1, 6), (148, 1, 70, 1, 6), (63, 1, 23, 1, 2), (75, 1, 56, 0, 5), (86, 1, 47, 2, 3)]
def q_IPW : List (Nat × Int32) := []
def q_LPW : List (Nat × Int64) := []
def q_PPW : qP := (q_lk q_FPW, q_lk q_CPW, q_lk q_MPW, q_lk q_IPW, q_lk q_LPW)
def q_FCs : List (Nat × Nat × Nat × FieldType × Nat) := [(11, 1, 0, .array .long, 1), (15, 1, 1, .int, 0)]
def q_CCs : List (Nat × ((Nat × List Value) ⊕ Nat)) := []
def q_MCs : List (Nat × Nat × Nat × Nat × Nat) := [(3, 0, 0, 0, 0), (25, 1, 16, 1, 1), (37, 2, 125, 1, 0), (19, 2, 124, 2, 0), (29, 4, 0, 0, 0)]
def q_ICs : List (Nat × Int32) := []
def q_LCs : List (Nat × Int64) := [(35, -1)]
def q_PCs : qP := (q_lk q_FCs, q_lk q_CCs, q_lk q_MCs, q_lk q_ICs, q_lk q_LCs)
def q_FPa : List (Nat × Nat × Nat × FieldType × Nat) := [(24, 2, 0, .array .char, 1), (28, 2, 1, .object "PatternWalk$CharSets", 1), (9, 2, 2, .int, 0), (15, 2, 3, .int, 0), (18, 2, 4, .int, 0), (21, 2, 5, .int, 0), (57, 5, 2, .object "PatternWalk$Row", 0), (79, 4, 0, .int, 0), (98, 4, 1, .object "PatternWalk$Row", 0), (95, 4, 2, .int, 0), (104, 4, 3, .int, 0), (127, 4, 4, .int, 0), (147, 4, 5, .int, 0), (130, 4, 6, .boolean, 0), (134, 4, 7, .boolean, 0), (140, 4, 8, .boolean, 0)]
def q_CPa : List (Nat × ((Nat × List Value) ⊕ Nat)) := [(50, .inl (5, [.null, .null, .null, .int 0])), (69, .inl (4, [.int 0, .null, .int 0, .int 0, .int 0, .int 0, .int 0, .int 0, .int 0, .null]))]
def q_MPa : List (Nat × Nat × Nat × Nat × Nat) := [(3, 0, 0, 0, 0), (32, 5, 0, 0, 0), (38, 1, 18, 0, 1), (43, 1, 24, 1, 2), (52, 3, 55, 0, 0), (53, 1, 25, 0, 2), (61, 1, 26, 1, 2), (71, 3, 53, 0, 0), (72, 1, 27, 2, 2), (47, 1, 28, 0, 2), (92, 1, 29, 1, 2), (101, 1, 56, 0, 5), (76, 1, 19, 0, 1), (82, 1, 30, 1, 2), (107, 1, 31, 1, 2), (110, 1, 20, 3, 1), (118, 1, 32, 1, 2), (124, 2, 33, 1, 0), (121, 1, 21, 1, 1), (86, 1, 34, 1, 2), (114, 2, 35, 1, 0), (89, 1, 36, 1, 2), (137, 1, 37, 1, 2), (143, 2, 38, 1, 0), (150, 1, 39, 1, 2), (65, 1, 57, 1, 5)]
def q_IPa : List (Nat × Int32) := []
def q_LPa : List (Nat × Int64) := []
def q_PPa : qP := (q_lk q_FPa, q_lk q_CPa, q_lk q_MPa, q_lk q_IPa, q_lk q_LPa)
def q_FPr : List (Nat × Nat × Nat × FieldType × Nat) := [(9, 3, 0, .array .int, 1), (15, 3, 1, .array .int, 1), (18, 3, 2, .array .int, 1), (21, 3, 3, .int, 0), (25, 3, 4, .int, 0), (54, 5, 0, .object "PatternWalk$Repeat", 0), (49, 5, 2, .object "PatternWalk$Row", 0), (53, 5, 3, .int, 0), (95, 4, 0, .int, 0), (92, 4, 1, .object "PatternWalk$Row", 0), (98, 4, 2, .int, 0), (86, 4, 3, .int, 0), (66, 4, 4, .int, 0), (89, 4, 5, .int, 0), (83, 4, 6, .boolean, 0), (72, 4, 7, .boolean, 0), (76, 4, 8, .boolean, 0), (62, 4, 9, .object "PatternWalk$Repeat", 0)]
def q_CPr : List (Nat × ((Nat × List Value) ⊕ Nat)) := []
def q_MPr : List (Nat × Nat × Nat × Nat × Nat) := [(3, 0, 0, 0, 0), (28, 1, 43, 1, 3), (32, 1, 42, 0, 3), (35, 1, 48, 3, 3), (39, 1, 49, 2, 3), (43, 1, 56, 0, 5), (58, 1, 50, 2, 3), (69, 1, 51, 2, 3), (79, 1, 52, 3, 3)]
def q_IPr : List (Nat × Int32) := []
def q_LPr : List (Nat × Int64) := []
def q_PPr : qP := (q_lk q_FPr, q_lk q_CPr, q_lk q_MPr, q_lk q_IPr, q_lk q_LPr)
def q_FRp : List (Nat × Nat × Nat × FieldType × Nat) := [(9, 4, 0, .int, 0), (15, 4, 1, .object "PatternWalk$Row", 0), (19, 4, 2, .int, 0), (22, 4, 3, .int, 0), (25, 4, 4, .int, 0), (28, 4, 5, .int, 0), (31, 4, 6, .boolean, 0), (35, 4, 7, .boolean, 0), (38, 4, 8, .boolean, 0), (41, 4, 9, .object "PatternWalk$Repeat", 0)]
def q_CRp : List (Nat × ((Nat × List Value) ⊕ Nat)) := []
def q_MRp : List (Nat × Nat × Nat × Nat × Nat) := [(3, 0, 0, 0, 0)]
def q_IRp : List (Nat × Int32) := []
def q_LRp : List (Nat × Int64) := []
def q_PRp : qP := (q_lk q_FRp, q_lk q_CRp, q_lk q_MRp, q_lk q_IRp, q_lk q_LRp)
def q_FRw : List (Nat × Nat × Nat × FieldType × Nat) := [(7, 5, 0, .object "PatternWalk$Repeat", 0), (13, 5, 1, .object "PatternWalk$Repeat", 0), (16, 5, 2, .object "PatternWalk$Row", 0), (20, 5, 3, .int, 0), (24, 4, 9, .object "PatternWalk$Repeat", 0)]
def q_CRw : List (Nat × ((Nat × List Value) ⊕ Nat)) := []
def q_MRw : List (Nat × Nat × Nat × Nat × Nat) := [(1, 0, 0, 0, 0), (31, 5, 0, 0, 0), (28, 1, 54, 0, 4)]
def q_IRw : List (Nat × Int32) := []
def q_LRw : List (Nat × Int64) := []
def q_PRw : qP := (q_lk q_FRw, q_lk q_CRw, q_lk q_MRw, q_lk q_IRw, q_lk q_LRw)
def q_FWk : List (Nat × Nat × Nat × FieldType × Nat) := [(65, 7, 2, .int, 0), (57, 6, 0, .object "PatternWalk$Program", 1), (61, 6, 1, .object "PatternWalk$CharSets", 1), (12, 6, 2, .object "PatternWalk$Ways", 0), (18, 6, 3, .object "PatternWalk$Ways", 0), (21, 6, 4, .array .int, 1), (25, 6, 5, .array .int, 1), (28, 6, 6, .array .int, 1), (31, 6, 7, .int, 0), (35, 6, 8, .array .int, 1), (38, 6, 9, .array .int, 1), (41, 6, 10, .boolean, 0), (45, 6, 11, .boolean, 0), (48, 6, 12, .boolean, 0), (51, 6, 13, .boolean, 0), (54, 6, 14, .int, 0)]
def q_CWk : List (Nat × ((Nat × List Value) ⊕ Nat)) := [(9, .inl (7, [.null, .null, .int 0]))]
def q_MWk : List (Nat × Nat × Nat × Nat × Nat) := [(3, 0, 0, 0, 0), (11, 3, 71, 0, 0), (68, 2, 123, 2, 0), (74, 1, 61, 0, 6), (96, 1, 62, 1, 6), (100, 1, 63, 2, 6), (104, 1, 64, 1, 6), (110, 1, 43, 1, 3), (113, 1, 44, 1, 3), (116, 1, 72, 2, 7), (119, 1, 46, 1, 3), (81, 1, 45, 1, 3), (122, 1, 65, 1, 6), (125, 1, 66, 0, 6), (107, 1, 67, 2, 6), (77, 1, 73, 1, 7), (86, 1, 17, 2, 1), (92, 1, 74, 2, 7)]
def q_IWk : List (Nat × Int32) := []
def q_LWk : List (Nat × Int64) := []
def q_PWk : qP := (q_lk q_FWk, q_lk q_CWk, q_lk q_MWk, q_lk q_IWk, q_lk q_LWk)
def q_FWy : List (Nat × Nat × Nat × FieldType × Nat) := [(9, 7, 0, .array .int, 1), (15, 7, 1, .array .int, 1), (18, 7, 2, .int, 0)]
def q_CWy : List (Nat × ((Nat × List Value) ⊕ Nat)) := []
def q_MWy : List (Nat × Nat × Nat × Nat × Nat) := [(3, 0, 0, 0, 0)]
def q_IWy : List (Nat × Int32) := []
def q_LWy : List (Nat × Int64) := []
def q_PWy : qP := (q_lk q_FWy, q_lk q_CWy, q_lk q_MWy, q_lk q_IWy, q_lk q_LWy)
def q_FMd : List (Nat × Nat × Nat × FieldType × Nat) := [(103, 8, 0, .int, 0), (106, 8, 1, .int, 0), (7, 8, 2, .array .char, 1), (13, 8, 3, .int, 0), (112, 8, 4, .int, 0), (17, 8, 5, .array .int, 1), (21, 8, 6, .array .int, 1), (24, 8, 7, .array .int, 1), (27, 8, 8, .array .int, 1), (30, 8, 9, .array .int, 1), (33, 8, 10, .array .int, 1), (36, 8, 11, .array .int, 1), (39, 8, 12, .array .boolean, 1), (43, 8, 13, .array .int, 1), (126, 8, 14, .int, 0), (161, 8, 15, .int, 0), (46, 8, 16, .array .int, 1), (49, 8, 17, .array .int, 1), (52, 8, 18, .array .int, 1), (164, 8, 19, .int, 0), (115, 8, 20, .int, 0), (55, 8, 21, .array .int, 1), (109, 8, 22, .int, 0), (58, 8, 23, .array .int, 1), (61, 8, 24, .array .int, 1), (64, 8, 25, .array .int, 1), (184, 8, 26, .int, 0), (67, 8, 27, .array .int, 1), (70, 8, 28, .array .int, 1), (212, 8, 29, .boolean, 0), (219, 8, 30, .boolean, 0), (222, 8, 31, .int, 0), (73, 8, 32, .array .int, 1), (225, 8, 33, .boolean, 0), (246, 8, 34, .boolean, 0), (76, 8, 35, .array .int, 1), (79, 8, 36, .array .int, 1), (82, 8, 37, .array .boolean, 1), (85, 8, 38, .array .boolean, 1), (88, 8, 39, .array .boolean, 1), (240, 8, 40, .int, 0), (91, 8, 41, .array .int, 1), (94, 8, 42, .array .int, 1), (97, 8, 43, .array .boolean, 1), (100, 8, 44, .array .int, 1)]
def q_CMd : List (Nat × ((Nat × List Value) ⊕ Nat)) := []
def q_MMd : List (Nat × Nat × Nat × Nat × Nat) := [(1, 0, 0, 0, 0), (201, 1, 79, 0, 8), (143, 1, 80, 2, 8), (129, 1, 81, 1, 8), (167, 1, 82, 1, 8), (170, 1, 83, 1, 8), (155, 1, 84, 1, 8), (158, 2, 85, 1, 0), (173, 1, 86, 1, 8), (140, 2, 87, 1, 0), (147, 1, 88, 0, 8), (151, 1, 89, 1, 8), (132, 1, 90, 2, 8), (118, 1, 91, 3, 8), (136, 2, 92, 1, 0), (205, 1, 93, 1, 8), (180, 1, 94, 4, 8), (187, 1, 95, 2, 8), (209, 1, 96, 2, 8), (195, 1, 97, 2, 8), (198, 1, 98, 2, 8), (191, 1, 99, 4, 8), (216, 1, 103, 1, 8), (122, 1, 104, 2, 8), (263, 1, 109, 0, 8), (243, 1, 110, 0, 8), (231, 1, 111, 2, 8), (237, 1, 112, 2, 8), (228, 1, 113, 2, 8), (234, 1, 114, 1, 8), (249, 1, 115, 2, 8), (253, 1, 116, 2, 8), (256, 1, 117, 2, 8), (259, 1, 118, 1, 8)]
def q_IMd : List (Nat × Int32) := []
def q_LMd : List (Nat × Int64) := [(176, 2), (178, 10000)]
def q_PMd : qP := (q_lk q_FMd, q_lk q_CMd, q_lk q_MMd, q_lk q_IMd, q_lk q_LMd)
def q_FAr : List (Nat × Nat × Nat × FieldType × Nat) := []
def q_CAr : List (Nat × ((Nat × List Value) ⊕ Nat)) := []
def q_MAr : List (Nat × Nat × Nat × Nat × Nat) := []
def q_IAr : List (Nat × Int32) := []
def q_LAr : List (Nat × Int64) := []
def q_PAr : qP := (q_lk q_FAr, q_lk q_CAr, q_lk q_MAr, q_lk q_IAr, q_lk q_LAr)
def q_FLo : List (Nat × Nat × Nat × FieldType × Nat) := []
def q_CLo : List (Nat × ((Nat × List Value) ⊕ Nat)) := []
def q_MLo : List (Nat × Nat × Nat × Nat × Nat) := []
def q_ILo : List (Nat × Int32) := []
def q_LLo : List (Nat × Int64) := [(314, 6148914691236517205), (316, 3689348814741910323), (318, 1085102592571150095)]
def q_PLo : qP := (q_lk q_FLo, q_lk q_CLo, q_lk q_MLo, q_lk q_ILo, q_lk q_LLo)
def q_yPW_init : MethodName := ⟨"PatternWalk", "<init>", "()V"⟩
def q_mPW_init : qM := (prog_1_method_1_code, 1, none, true, q_PPW)
def q_yPW_pattern : MethodName := ⟨"PatternWalk", "pattern", "(C)Z"⟩
def q_mPW_pattern : qM := (prog_1_method_2_code, 2, (some .boolean), false, q_PPW)
def q_yPW_position : MethodName := ⟨"PatternWalk", "position", "()I"⟩
def q_mPW_position : qM := (prog_1_method_4_code, 1, (some .int), false, q_PPW)
def q_yPW_clear : MethodName := ⟨"PatternWalk", "clear", "()V"⟩
def q_mPW_clear : qM := (prog_1_method_5_code, 1, none, false, q_PPW)
def q_yPW_instruction : MethodName := ⟨"PatternWalk", "instruction", "(II)I"⟩
def q_mPW_instruction : qM := (prog_1_method_6_code, 3, (some .int), false, q_PPW)
def q_yPW_groups : MethodName := ⟨"PatternWalk", "groups", "()I"⟩
def q_mPW_groups : qM := (prog_1_method_7_code, 1, (some .int), false, q_PPW)
def q_yPW_start : MethodName := ⟨"PatternWalk", "start", "(Z)Z"⟩
def q_mPW_start : qM := (prog_1_method_8_code, 2, (some .boolean), false, q_PPW)
def q_yPW_feed : MethodName := ⟨"PatternWalk", "feed", "(C)Z"⟩
def q_mPW_feed : qM := (prog_1_method_9_code, 2, (some .boolean), false, q_PPW)
def q_yPW_matched : MethodName := ⟨"PatternWalk", "matched", "()Z"⟩
def q_mPW_matched : qM := (prog_1_method_10_code, 1, (some .boolean), false, q_PPW)
def q_yPW_live : MethodName := ⟨"PatternWalk", "live", "()I"⟩
def q_mPW_live : qM := (prog_1_method_11_code, 1, (some .int), false, q_PPW)
def q_yPW_isLive : MethodName := ⟨"PatternWalk", "isLive", "(I)Z"⟩
def q_mPW_isLive : qM := (prog_1_method_12_code, 2, (some .boolean), false, q_PPW)
def q_yPW_mark : MethodName := ⟨"PatternWalk", "mark", "(I)I"⟩
def q_mPW_mark : qM := (prog_1_method_13_code, 2, (some .int), false, q_PPW)
def q_yPW_fed : MethodName := ⟨"PatternWalk", "fed", "()I"⟩
def q_mPW_fed : qM := (prog_1_method_14_code, 1, (some .int), false, q_PPW)
def q_yPW_compile : MethodName := ⟨"PatternWalk", "compile", "()I"⟩
def q_mPW_compile : qM := (prog_1_method_3_code, 2, (some .int), false, q_PPW)
def q_yCs_init : MethodName := ⟨"PatternWalk$CharSets", "<init>", "()V"⟩
def q_mCs_init : qM := (prog_2_method_1_code, 1, none, true, q_PCs)
def q_yCs_count : MethodName := ⟨"PatternWalk$CharSets", "count", "(I)I"⟩
def q_mCs_count : qM := (prog_2_method_8_code, 4, (some .int), false, q_PCs)
def q_yCs_isOpen : MethodName := ⟨"PatternWalk$CharSets", "isOpen", "(I)Z"⟩
def q_mCs_isOpen : qM := (prog_2_method_4_code, 2, (some .boolean), false, q_PCs)
def q_yCs_has : MethodName := ⟨"PatternWalk$CharSets", "has", "(II)Z"⟩
def q_mCs_has : qM := (prog_2_method_7_code, 3, (some .boolean), false, q_PCs)
def q_yCs_forgetAll : MethodName := ⟨"PatternWalk$CharSets", "forgetAll", "()V"⟩
def q_mCs_forgetAll : qM := (prog_2_method_2_code, 1, none, false, q_PCs)
def q_yCs_open : MethodName := ⟨"PatternWalk$CharSets", "open", "()I"⟩
def q_mCs_open : qM := (prog_2_method_3_code, 1, (some .int), false, q_PCs)
def q_yCs_addRange : MethodName := ⟨"PatternWalk$CharSets", "addRange", "(III)V"⟩
def q_mCs_addRange : qM := (prog_2_method_5_code, 5, none, false, q_PCs)
def q_yCs_invert : MethodName := ⟨"PatternWalk$CharSets", "invert", "(I)V"⟩
def q_mCs_invert : qM := (prog_2_method_6_code, 3, none, false, q_PCs)
def q_yPa_init : MethodName := ⟨"PatternWalk$Parser", "<init>", "([CLPatternWalk$CharSets;)V"⟩
def q_mPa_init : qM := (prog_3_method_1_code, 3, none, true, q_PPa)
def q_yPa_parse : MethodName := ⟨"PatternWalk$Parser", "parse", "(I)LPatternWalk$Row;"⟩
def q_mPa_parse : qM := (prog_3_method_2_code, 3, (some (.object "PatternWalk$Row")), false, q_PPa)
def q_yPa_readChoice : MethodName := ⟨"PatternWalk$Parser", "readChoice", "(I)LPatternWalk$Row;"⟩
def q_mPa_readChoice : qM := (prog_3_method_5_code, 6, (some (.object "PatternWalk$Row")), false, q_PPa)
def q_yPa_peek : MethodName := ⟨"PatternWalk$Parser", "peek", "()I"⟩
def q_mPa_peek : qM := (prog_3_method_3_code, 1, (some .int), false, q_PPa)
def q_yPa_readRepeat : MethodName := ⟨"PatternWalk$Parser", "readRepeat", "(I)LPatternWalk$Repeat;"⟩
def q_mPa_readRepeat : qM := (prog_3_method_6_code, 4, (some (.object "PatternWalk$Repeat")), false, q_PPa)
def q_yPa_readGroup : MethodName := ⟨"PatternWalk$Parser", "readGroup", "(LPatternWalk$Repeat;I)V"⟩
def q_mPa_readGroup : qM := (prog_3_method_7_code, 4, none, false, q_PPa)
def q_yPa_fail : MethodName := ⟨"PatternWalk$Parser", "fail", "()V"⟩
def q_mPa_fail : qM := (prog_3_method_4_code, 1, none, false, q_PPa)
def q_yPa_expect : MethodName := ⟨"PatternWalk$Parser", "expect", "(I)V"⟩
def q_mPa_expect : qM := (prog_3_method_8_code, 2, none, false, q_PPa)
def q_yPa_readSet : MethodName := ⟨"PatternWalk$Parser", "readSet", "(I)V"⟩
def q_mPa_readSet : qM := (prog_3_method_11_code, 5, none, false, q_PPa)
def q_yPa_readEscaped : MethodName := ⟨"PatternWalk$Parser", "readEscaped", "(I)V"⟩
def q_mPa_readEscaped : qM := (prog_3_method_14_code, 3, none, false, q_PPa)
def q_yPa_readItem : MethodName := ⟨"PatternWalk$Parser", "readItem", "(I)V"⟩
def q_mPa_readItem : qM := (prog_3_method_12_code, 4, none, false, q_PPa)
def q_yPa_isItem : MethodName := ⟨"PatternWalk$Parser", "isItem", "(I)Z"⟩
def q_mPa_isItem : qM := (prog_3_method_13_code, 1, (some .boolean), false, q_PPa)
def q_yPa_readCharacter : MethodName := ⟨"PatternWalk$Parser", "readCharacter", "(I)V"⟩
def q_mPa_readCharacter : qM := (prog_3_method_9_code, 3, none, false, q_PPa)
def q_yPa_standsForItself : MethodName := ⟨"PatternWalk$Parser", "standsForItself", "(I)Z"⟩
def q_mPa_standsForItself : qM := (prog_3_method_10_code, 1, (some .boolean), false, q_PPa)
def q_yPa_readCount : MethodName := ⟨"PatternWalk$Parser", "readCount", "(LPatternWalk$Repeat;)V"⟩
def q_mPa_readCount : qM := (prog_3_method_15_code, 2, none, false, q_PPa)
def q_yPa_readBraces : MethodName := ⟨"PatternWalk$Parser", "readBraces", "(LPatternWalk$Repeat;)V"⟩
def q_mPa_readBraces : qM := (prog_3_method_16_code, 3, none, false, q_PPa)
def q_yPa_digit : MethodName := ⟨"PatternWalk$Parser", "digit", "(I)I"⟩
def q_mPa_digit : qM := (prog_3_method_18_code, 1, (some .int), false, q_PPa)
def q_yPa_readMost : MethodName := ⟨"PatternWalk$Parser", "readMost", "(LPatternWalk$Repeat;)V"⟩
def q_mPa_readMost : qM := (prog_3_method_17_code, 3, none, false, q_PPa)
def q_yPr_init : MethodName := ⟨"PatternWalk$Program", "<init>", "()V"⟩
def q_mPr_init : qM := (prog_4_method_1_code, 1, none, true, q_PPr)
def q_yPr_isWritten : MethodName := ⟨"PatternWalk$Program", "isWritten", "()Z"⟩
def q_mPr_isWritten : qM := (prog_4_method_2_code, 1, (some .boolean), false, q_PPr)
def q_yPr_erase : MethodName := ⟨"PatternWalk$Program", "erase", "()V"⟩
def q_mPr_erase : qM := (prog_4_method_7_code, 1, none, false, q_PPr)
def q_yPr_has : MethodName := ⟨"PatternWalk$Program", "has", "(I)Z"⟩
def q_mPr_has : qM := (prog_4_method_3_code, 2, (some .boolean), false, q_PPr)
def q_yPr_kindOf : MethodName := ⟨"PatternWalk$Program", "kindOf", "(I)I"⟩
def q_mPr_kindOf : qM := (prog_4_method_4_code, 2, (some .int), false, q_PPr)
def q_yPr_xOf : MethodName := ⟨"PatternWalk$Program", "xOf", "(I)I"⟩
def q_mPr_xOf : qM := (prog_4_method_5_code, 2, (some .int), false, q_PPr)
def q_yPr_yOf : MethodName := ⟨"PatternWalk$Program", "yOf", "(I)I"⟩
def q_mPr_yOf : qM := (prog_4_method_6_code, 2, (some .int), false, q_PPr)
def q_yPr_write : MethodName := ⟨"PatternWalk$Program", "write", "(LPatternWalk$Row;I)V"⟩
def q_mPr_write : qM := (prog_4_method_8_code, 3, none, false, q_PPr)
def q_yPr_add : MethodName := ⟨"PatternWalk$Program", "add", "(III)V"⟩
def q_mPr_add : qM := (prog_4_method_9_code, 4, none, false, q_PPr)
def q_yPr_writeChoice : MethodName := ⟨"PatternWalk$Program", "writeChoice", "(LPatternWalk$Row;I)V"⟩
def q_mPr_writeChoice : qM := (prog_4_method_11_code, 6, none, false, q_PPr)
def q_yPr_writeRepeat : MethodName := ⟨"PatternWalk$Program", "writeRepeat", "(LPatternWalk$Repeat;I)V"⟩
def q_mPr_writeRepeat : qM := (prog_4_method_12_code, 5, none, false, q_PPr)
def q_yPr_writeAtom : MethodName := ⟨"PatternWalk$Program", "writeAtom", "(LPatternWalk$Repeat;I)V"⟩
def q_mPr_writeAtom : qM := (prog_4_method_13_code, 3, none, false, q_PPr)
def q_yPr_addSplit : MethodName := ⟨"PatternWalk$Program", "addSplit", "(IIZ)V"⟩
def q_mPr_addSplit : qM := (prog_4_method_10_code, 4, none, false, q_PPr)
def q_yRp_init : MethodName := ⟨"PatternWalk$Repeat", "<init>", "()V"⟩
def q_mRp_init : qM := (prog_5_method_1_code, 1, none, true, q_PRp)
def q_yRp_size : MethodName := ⟨"PatternWalk$Repeat", "size", "()I"⟩
def q_mRp_size : qM := (prog_5_method_2_code, 1, (some .int), false, q_PRp)
def q_yRw_init : MethodName := ⟨"PatternWalk$Row", "<init>", "()V"⟩
def q_mRw_init : qM := (prog_6_method_1_code, 1, none, true, q_PRw)
def q_yRw_sizeAsChoice : MethodName := ⟨"PatternWalk$Row", "sizeAsChoice", "()I"⟩
def q_mRw_sizeAsChoice : qM := (prog_6_method_3_code, 3, (some .int), false, q_PRw)
def q_yRw_append : MethodName := ⟨"PatternWalk$Row", "append", "(LPatternWalk$Repeat;)V"⟩
def q_mRw_append : qM := (prog_6_method_2_code, 2, none, false, q_PRw)
def q_yWk_init : MethodName := ⟨"PatternWalk$Walk", "<init>", "(LPatternWalk$Program;LPatternWalk$CharSets;)V"⟩
def q_mWk_init : qM := (prog_7_method_1_code, 3, none, true, q_PWk)
def q_yWk_end : MethodName := ⟨"PatternWalk$Walk", "end", "()V"⟩
def q_mWk_end : qM := (prog_7_method_2_code, 1, none, false, q_PWk)
def q_yWk_begin : MethodName := ⟨"PatternWalk$Walk", "begin", "(Z)V"⟩
def q_mWk_begin : qM := (prog_7_method_3_code, 2, none, false, q_PWk)
def q_yWk_followFromStart : MethodName := ⟨"PatternWalk$Walk", "followFromStart", "()V"⟩
def q_mWk_followFromStart : qM := (prog_7_method_5_code, 1, none, false, q_PWk)
def q_yWk_follow : MethodName := ⟨"PatternWalk$Walk", "follow", "(I)V"⟩
def q_mWk_follow : qM := (prog_7_method_6_code, 4, none, false, q_PWk)
def q_yWk_push : MethodName := ⟨"PatternWalk$Walk", "push", "(II)V"⟩
def q_mWk_push : qM := (prog_7_method_7_code, 3, none, false, q_PWk)
def q_yWk_visit : MethodName := ⟨"PatternWalk$Walk", "visit", "(I)V"⟩
def q_mWk_visit : qM := (prog_7_method_8_code, 2, none, false, q_PWk)
def q_yWk_passMark : MethodName := ⟨"PatternWalk$Walk", "passMark", "(I)V"⟩
def q_mWk_passMark : qM := (prog_7_method_9_code, 2, none, false, q_PWk)
def q_yWk_keepMatch : MethodName := ⟨"PatternWalk$Walk", "keepMatch", "()V"⟩
def q_mWk_keepMatch : qM := (prog_7_method_11_code, 2, none, false, q_PWk)
def q_yWk_setMark : MethodName := ⟨"PatternWalk$Walk", "setMark", "(II)V"⟩
def q_mWk_setMark : qM := (prog_7_method_10_code, 3, none, false, q_PWk)
def q_yWk_step : MethodName := ⟨"PatternWalk$Walk", "step", "(I)V"⟩
def q_mWk_step : qM := (prog_7_method_4_code, 5, none, false, q_PWk)
def q_yWk_standsAt : MethodName := ⟨"PatternWalk$Walk", "standsAt", "(I)Z"⟩
def q_mWk_standsAt : qM := (prog_7_method_13_code, 2, (some .boolean), false, q_PWk)
def q_yWk_foundMark : MethodName := ⟨"PatternWalk$Walk", "foundMark", "(I)I"⟩
def q_mWk_foundMark : qM := (prog_7_method_12_code, 2, (some .int), false, q_PWk)
def q_yWy_init : MethodName := ⟨"PatternWalk$Ways", "<init>", "()V"⟩
def q_mWy_init : qM := (prog_8_method_1_code, 1, none, true, q_PWy)
def q_yWy_add : MethodName := ⟨"PatternWalk$Ways", "add", "(I[I)V"⟩
def q_mWy_add : qM := (prog_8_method_2_code, 4, none, false, q_PWy)
def q_yWy_takeOf : MethodName := ⟨"PatternWalk$Ways", "takeOf", "(I)I"⟩
def q_mWy_takeOf : qM := (prog_8_method_3_code, 2, (some .int), false, q_PWy)
def q_yWy_copyMarks : MethodName := ⟨"PatternWalk$Ways", "copyMarks", "(I[I)V"⟩
def q_mWy_copyMarks : qM := (prog_8_method_4_code, 4, none, false, q_PWy)
def q_yMd_init : MethodName := ⟨"PatternWalkModel", "<init>", "()V"⟩
def q_mMd_init : qM := (prog_10_method_1_code, 1, none, true, q_PMd)
def q_yMd_thrown : MethodName := ⟨"PatternWalkModel", "thrown", "()I"⟩
def q_mMd_thrown : qM := (prog_10_method_2_code, 1, (some .int), false, q_PMd)
def q_yMd_pattern : MethodName := ⟨"PatternWalkModel", "pattern", "(C)Z"⟩
def q_mMd_pattern : qM := (prog_10_method_3_code, 2, (some .boolean), false, q_PMd)
def q_yMd_compile : MethodName := ⟨"PatternWalkModel", "compile", "()I"⟩
def q_mMd_compile : qM := (prog_10_method_27_code, 4, (some .int), false, q_PMd)
def q_yMd_read : MethodName := ⟨"PatternWalkModel", "read", "()Z"⟩
def q_mMd_read : qM := (prog_10_method_19_code, 3, (some .boolean), false, q_PMd)
def q_yMd_node : MethodName := ⟨"PatternWalkModel", "node", "(II)I"⟩
def q_mMd_node : qM := (prog_10_method_8_code, 4, (some .int), false, q_PMd)
def q_yMd_here : MethodName := ⟨"PatternWalkModel", "here", "(I)C"⟩
def q_mMd_here : qM := (prog_10_method_4_code, 2, (some .char), false, q_PMd)
def q_yMd_open : MethodName := ⟨"PatternWalkModel", "open", "(I)Z"⟩
def q_mMd_open : qM := (prog_10_method_18_code, 4, (some .boolean), false, q_PMd)
def q_yMd_readCount : MethodName := ⟨"PatternWalkModel", "readCount", "(I)Z"⟩
def q_mMd_readCount : qM := (prog_10_method_16_code, 3, (some .boolean), false, q_PMd)
def q_yMd_readBraces : MethodName := ⟨"PatternWalkModel", "readBraces", "(I)Z"⟩
def q_mMd_readBraces : qM := (prog_10_method_17_code, 3, (some .boolean), false, q_PMd)
def q_yMd_isDigit : MethodName := ⟨"PatternWalkModel", "isDigit", "(C)Z"⟩
def q_mMd_isDigit : qM := (prog_10_method_5_code, 1, (some .boolean), false, q_PMd)
def q_yMd_readSign : MethodName := ⟨"PatternWalkModel", "readSign", "(I)Z"⟩
def q_mMd_readSign : qM := (prog_10_method_15_code, 5, (some .boolean), false, q_PMd)
def q_yMd_isPlain : MethodName := ⟨"PatternWalkModel", "isPlain", "(C)Z"⟩
def q_mMd_isPlain : qM := (prog_10_method_6_code, 2, (some .boolean), false, q_PMd)
def q_yMd_newSet : MethodName := ⟨"PatternWalkModel", "newSet", "()I"⟩
def q_mMd_newSet : qM := (prog_10_method_9_code, 2, (some .int), false, q_PMd)
def q_yMd_readSet : MethodName := ⟨"PatternWalkModel", "readSet", "(I)Z"⟩
def q_mMd_readSet : qM := (prog_10_method_14_code, 6, (some .boolean), false, q_PMd)
def q_yMd_includeSpecial : MethodName := ⟨"PatternWalkModel", "includeSpecial", "(IC)V"⟩
def q_mMd_includeSpecial : qM := (prog_10_method_11_code, 3, none, false, q_PMd)
def q_yMd_include : MethodName := ⟨"PatternWalkModel", "include", "(III)V"⟩
def q_mMd_include : qM := (prog_10_method_10_code, 5, none, false, q_PMd)
def q_yMd_isItem : MethodName := ⟨"PatternWalkModel", "isItem", "(C)Z"⟩
def q_mMd_isItem : qM := (prog_10_method_7_code, 1, (some .boolean), false, q_PMd)
def q_yMd_widthOf : MethodName := ⟨"PatternWalkModel", "widthOf", "(I)I"⟩
def q_mMd_widthOf : qM := (prog_10_method_20_code, 8, (some .int), false, q_PMd)
def q_yMd_put : MethodName := ⟨"PatternWalkModel", "put", "(IIII)V"⟩
def q_mMd_put : qM := (prog_10_method_21_code, 5, none, false, q_PMd)
def q_yMd_later : MethodName := ⟨"PatternWalkModel", "later", "(II)V"⟩
def q_mMd_later : qM := (prog_10_method_23_code, 3, none, false, q_PMd)
def q_yMd_writeNode : MethodName := ⟨"PatternWalkModel", "writeNode", "(II)V"⟩
def q_mMd_writeNode : qM := (prog_10_method_26_code, 5, none, false, q_PMd)
def q_yMd_writeChoice : MethodName := ⟨"PatternWalkModel", "writeChoice", "(II)V"⟩
def q_mMd_writeChoice : qM := (prog_10_method_24_code, 6, none, false, q_PMd)
def q_yMd_writeRepeat : MethodName := ⟨"PatternWalkModel", "writeRepeat", "(II)V"⟩
def q_mMd_writeRepeat : qM := (prog_10_method_25_code, 11, none, false, q_PMd)
def q_yMd_split : MethodName := ⟨"PatternWalkModel", "split", "(IIIZ)V"⟩
def q_mMd_split : qM := (prog_10_method_22_code, 5, none, false, q_PMd)
def q_yMd_position : MethodName := ⟨"PatternWalkModel", "position", "()I"⟩
def q_mMd_position : qM := (prog_10_method_28_code, 1, (some .int), false, q_PMd)
def q_yMd_clear : MethodName := ⟨"PatternWalkModel", "clear", "()V"⟩
def q_mMd_clear : qM := (prog_10_method_29_code, 1, none, false, q_PMd)
def q_yMd_instruction : MethodName := ⟨"PatternWalkModel", "instruction", "(II)I"⟩
def q_mMd_instruction : qM := (prog_10_method_30_code, 3, (some .int), false, q_PMd)
def q_yMd_many : MethodName := ⟨"PatternWalkModel", "many", "(I)I"⟩
def q_mMd_many : qM := (prog_10_method_13_code, 4, (some .int), false, q_PMd)
def q_yMd_has : MethodName := ⟨"PatternWalkModel", "has", "(II)Z"⟩
def q_mMd_has : qM := (prog_10_method_12_code, 3, (some .boolean), false, q_PMd)
def q_yMd_groups : MethodName := ⟨"PatternWalkModel", "groups", "()I"⟩
def q_mMd_groups : qM := (prog_10_method_31_code, 1, (some .int), false, q_PMd)
def q_yMd_start : MethodName := ⟨"PatternWalkModel", "start", "(Z)Z"⟩
def q_mMd_start : qM := (prog_10_method_32_code, 2, (some .boolean), false, q_PMd)
def q_yMd_feed : MethodName := ⟨"PatternWalkModel", "feed", "(C)Z"⟩
def q_mMd_feed : qM := (prog_10_method_33_code, 2, (some .boolean), false, q_PMd)
def q_yMd_matched : MethodName := ⟨"PatternWalkModel", "matched", "()Z"⟩
def q_mMd_matched : qM := (prog_10_method_44_code, 1, (some .boolean), false, q_PMd)
def q_yMd_work : MethodName := ⟨"PatternWalkModel", "work", "()V"⟩
def q_mMd_work : qM := (prog_10_method_42_code, 6, none, false, q_PMd)
def q_yMd_fill : MethodName := ⟨"PatternWalkModel", "fill", "()V"⟩
def q_mMd_fill : qM := (prog_10_method_38_code, 5, none, false, q_PMd)
def q_yMd_reaches : MethodName := ⟨"PatternWalkModel", "reaches", "(II)Z"⟩
def q_mMd_reaches : qM := (prog_10_method_34_code, 3, (some .boolean), false, q_PMd)
def q_yMd_may : MethodName := ⟨"PatternWalkModel", "may", "(II)Z"⟩
def q_mMd_may : qM := (prog_10_method_37_code, 3, (some .boolean), false, q_PMd)
def q_yMd_takes : MethodName := ⟨"PatternWalkModel", "takes", "(II)Z"⟩
def q_mMd_takes : qM := (prog_10_method_35_code, 3, (some .boolean), false, q_PMd)
def q_yMd_isMatch : MethodName := ⟨"PatternWalkModel", "isMatch", "(I)Z"⟩
def q_mMd_isMatch : qM := (prog_10_method_36_code, 2, (some .boolean), false, q_PMd)
def q_yMd_spread : MethodName := ⟨"PatternWalkModel", "spread", "([ZI)V"⟩
def q_mMd_spread : qM := (prog_10_method_39_code, 4, none, false, q_PMd)
def q_yMd_choose : MethodName := ⟨"PatternWalkModel", "choose", "(II)I"⟩
def q_mMd_choose : qM := (prog_10_method_40_code, 4, (some .int), false, q_PMd)
def q_yMd_setMarks : MethodName := ⟨"PatternWalkModel", "setMarks", "(II)V"⟩
def q_mMd_setMarks : qM := (prog_10_method_41_code, 4, none, false, q_PMd)
def q_yMd_step : MethodName := ⟨"PatternWalkModel", "step", "(I)V"⟩
def q_mMd_step : qM := (prog_10_method_43_code, 3, none, false, q_PMd)
def q_yMd_live : MethodName := ⟨"PatternWalkModel", "live", "()I"⟩
def q_mMd_live : qM := (prog_10_method_45_code, 3, (some .int), false, q_PMd)
def q_yMd_isLive : MethodName := ⟨"PatternWalkModel", "isLive", "(I)Z"⟩
def q_mMd_isLive : qM := (prog_10_method_46_code, 2, (some .boolean), false, q_PMd)
def q_yMd_mark : MethodName := ⟨"PatternWalkModel", "mark", "(I)I"⟩
def q_mMd_mark : qM := (prog_10_method_47_code, 2, (some .int), false, q_PMd)
def q_yMd_fed : MethodName := ⟨"PatternWalkModel", "fed", "()I"⟩
def q_mMd_fed : qM := (prog_10_method_48_code, 1, (some .int), false, q_PMd)
def q_yAr_fill : MethodName := ⟨"java/util/Arrays", "fill", "([II)V"⟩
def q_mAr_fill : qM := (prog_19_method_103_code, 4, none, false, q_PAr)
def q_yAr_fill2 : MethodName := ⟨"java/util/Arrays", "fill", "([JJ)V"⟩
def q_mAr_fill2 : qM := (prog_19_method_101_code, 5, none, false, q_PAr)
def q_yLo_bitCount : MethodName := ⟨"java/lang/Long", "bitCount", "(J)I"⟩
def q_mLo_bitCount : qM := (prog_14_method_50_code, 2, (some .int), false, q_PLo)
def q_all : List (MethodName × qM) := [(q_yPW_init, q_mPW_init), (q_yPW_pattern, q_mPW_pattern), (q_yPW_position, q_mPW_position), (q_yPW_clear, q_mPW_clear), (q_yPW_instruction, q_mPW_instruction), (q_yPW_groups, q_mPW_groups), (q_yPW_start, q_mPW_start), (q_yPW_feed, q_mPW_feed), (q_yPW_matched, q_mPW_matched), (q_yPW_live, q_mPW_live), (q_yPW_isLive, q_mPW_isLive), (q_yPW_mark, q_mPW_mark), (q_yPW_fed, q_mPW_fed), (q_yPW_compile, q_mPW_compile), (q_yCs_init, q_mCs_init), (q_yCs_count, q_mCs_count), (q_yCs_isOpen, q_mCs_isOpen), (q_yCs_has, q_mCs_has), (q_yCs_forgetAll, q_mCs_forgetAll), (q_yCs_open, q_mCs_open), (q_yCs_addRange, q_mCs_addRange), (q_yCs_invert, q_mCs_invert), (q_yPa_init, q_mPa_init), (q_yPa_parse, q_mPa_parse), (q_yPa_readChoice, q_mPa_readChoice), (q_yPa_peek, q_mPa_peek), (q_yPa_readRepeat, q_mPa_readRepeat), (q_yPa_readGroup, q_mPa_readGroup), (q_yPa_fail, q_mPa_fail), (q_yPa_expect, q_mPa_expect), (q_yPa_readSet, q_mPa_readSet), (q_yPa_readEscaped, q_mPa_readEscaped), (q_yPa_readItem, q_mPa_readItem), (q_yPa_isItem, q_mPa_isItem), (q_yPa_readCharacter, q_mPa_readCharacter), (q_yPa_standsForItself, q_mPa_standsForItself), (q_yPa_readCount, q_mPa_readCount), (q_yPa_readBraces, q_mPa_readBraces), (q_yPa_digit, q_mPa_digit), (q_yPa_readMost, q_mPa_readMost), (q_yPr_init, q_mPr_init), (q_yPr_isWritten, q_mPr_isWritten), (q_yPr_erase, q_mPr_erase), (q_yPr_has, q_mPr_has), (q_yPr_kindOf, q_mPr_kindOf), (q_yPr_xOf, q_mPr_xOf), (q_yPr_yOf, q_mPr_yOf), (q_yPr_write, q_mPr_write), (q_yPr_add, q_mPr_add), (q_yPr_writeChoice, q_mPr_writeChoice), (q_yPr_writeRepeat, q_mPr_writeRepeat), (q_yPr_writeAtom, q_mPr_writeAtom), (q_yPr_addSplit, q_mPr_addSplit), (q_yRp_init, q_mRp_init), (q_yRp_size, q_mRp_size), (q_yRw_init, q_mRw_init), (q_yRw_sizeAsChoice, q_mRw_sizeAsChoice), (q_yRw_append, q_mRw_append), (q_yWk_init, q_mWk_init), (q_yWk_end, q_mWk_end), (q_yWk_begin, q_mWk_begin), (q_yWk_followFromStart, q_mWk_followFromStart), (q_yWk_follow, q_mWk_follow), (q_yWk_push, q_mWk_push), (q_yWk_visit, q_mWk_visit), (q_yWk_passMark, q_mWk_passMark), (q_yWk_keepMatch, q_mWk_keepMatch), (q_yWk_setMark, q_mWk_setMark), (q_yWk_step, q_mWk_step), (q_yWk_standsAt, q_mWk_standsAt), (q_yWk_foundMark, q_mWk_foundMark), (q_yWy_init, q_mWy_init), (q_yWy_add, q_mWy_add), (q_yWy_takeOf, q_mWy_takeOf), (q_yWy_copyMarks, q_mWy_copyMarks), (q_yMd_init, q_mMd_init), (q_yMd_thrown, q_mMd_thrown), (q_yMd_pattern, q_mMd_pattern), (q_yMd_compile, q_mMd_compile), (q_yMd_read, q_mMd_read), (q_yMd_node, q_mMd_node), (q_yMd_here, q_mMd_here), (q_yMd_open, q_mMd_open), (q_yMd_readCount, q_mMd_readCount), (q_yMd_readBraces, q_mMd_readBraces), (q_yMd_isDigit, q_mMd_isDigit), (q_yMd_readSign, q_mMd_readSign), (q_yMd_isPlain, q_mMd_isPlain), (q_yMd_newSet, q_mMd_newSet), (q_yMd_readSet, q_mMd_readSet), (q_yMd_includeSpecial, q_mMd_includeSpecial), (q_yMd_include, q_mMd_include), (q_yMd_isItem, q_mMd_isItem), (q_yMd_widthOf, q_mMd_widthOf), (q_yMd_put, q_mMd_put), (q_yMd_later, q_mMd_later), (q_yMd_writeNode, q_mMd_writeNode), (q_yMd_writeChoice, q_mMd_writeChoice), (q_yMd_writeRepeat, q_mMd_writeRepeat), (q_yMd_split, q_mMd_split), (q_yMd_position, q_mMd_position), (q_yMd_clear, q_mMd_clear), (q_yMd_instruction, q_mMd_instruction), (q_yMd_many, q_mMd_many), (q_yMd_has, q_mMd_has), (q_yMd_groups, q_mMd_groups), (q_yMd_start, q_mMd_start), (q_yMd_feed, q_mMd_feed), (q_yMd_matched, q_mMd_matched), (q_yMd_work, q_mMd_work), (q_yMd_fill, q_mMd_fill), (q_yMd_reaches, q_mMd_reaches), (q_yMd_may, q_mMd_may), (q_yMd_takes, q_mMd_takes), (q_yMd_isMatch, q_mMd_isMatch), (q_yMd_spread, q_mMd_spread), (q_yMd_choose, q_mMd_choose), (q_yMd_setMarks, q_mMd_setMarks), (q_yMd_step, q_mMd_step), (q_yMd_live, q_mMd_live), (q_yMd_isLive, q_mMd_isLive), (q_yMd_mark, q_mMd_mark), (q_yMd_fed, q_mMd_fed), (q_yAr_fill, q_mAr_fill), (q_yAr_fill2, q_mAr_fill2), (q_yLo_bitCount, q_mLo_bitCount)]
def q_yn (z : Nat) : MethodName := (q_all.getD z (q_yPW_init, q_mPW_init)).1
def q_Mt (z : Nat) : Option qM := (q_all[z]?).map (fun e => e.2)
theorem q_Mt_PW_init : q_Mt 0 = some q_mPW_init := rfl
theorem q_Mt_PW_pattern : q_Mt 1 = some q_mPW_pattern := rfl
theorem q_Mt_PW_position : q_Mt 2 = some q_mPW_position := rfl
theorem q_Mt_PW_clear : q_Mt 3 = some q_mPW_clear := rfl
theorem q_Mt_PW_instruction : q_Mt 4 = some q_mPW_instruction := rfl
theorem q_Mt_PW_groups : q_Mt 5 = some q_mPW_groups := rfl
theorem q_Mt_PW_start : q_Mt 6 = some q_mPW_start := rfl
theorem q_Mt_PW_feed : q_Mt 7 = some q_mPW_feed := rfl
theorem q_Mt_PW_matched : q_Mt 8 = some q_mPW_matched := rfl
theorem q_Mt_PW_live : q_Mt 9 = some q_mPW_live := rfl
theorem q_Mt_PW_isLive : q_Mt 10 = some q_mPW_isLive := rfl
theorem q_Mt_PW_mark : q_Mt 11 = some q_mPW_mark := rfl
theorem q_Mt_PW_fed : q_Mt 12 = some q_mPW_fed := rfl
theorem q_Mt_PW_compile : q_Mt 13 = some q_mPW_compile := rfl
theorem q_Mt_Cs_init : q_Mt 14 = some q_mCs_init := rfl
theorem q_Mt_Cs_count : q_Mt 15 = some q_mCs_count := rfl
theorem q_Mt_Cs_isOpen : q_Mt 16 = some q_mCs_isOpen := rfl
theorem q_Mt_Cs_has : q_Mt 17 = some q_mCs_has := rfl
theorem q_Mt_Cs_forgetAll : q_Mt 18 = some q_mCs_forgetAll := rfl
theorem q_Mt_Cs_open : q_Mt 19 = some q_mCs_open := rfl
theorem q_Mt_Cs_addRange : q_Mt 20 = some q_mCs_addRange := rfl
theorem q_Mt_Cs_invert : q_Mt 21 = some q_mCs_invert := rfl
theorem q_Mt_Pa_init : q_Mt 22 = some q_mPa_init := rfl
theorem q_Mt_Pa_parse : q_Mt 23 = some q_mPa_parse := rfl
theorem q_Mt_Pa_readChoice : q_Mt 24 = some q_mPa_readChoice := rfl
theorem q_Mt_Pa_peek : q_Mt 25 = some q_mPa_peek := rfl
theorem q_Mt_Pa_readRepeat : q_Mt 26 = some q_mPa_readRepeat := rfl
theorem q_Mt_Pa_readGroup : q_Mt 27 = some q_mPa_readGroup := rfl
theorem q_Mt_Pa_fail : q_Mt 28 = some q_mPa_fail := rfl
theorem q_Mt_Pa_expect : q_Mt 29 = some q_mPa_expect := rfl
theorem q_Mt_Pa_readSet : q_Mt 30 = some q_mPa_readSet := rfl
theorem q_Mt_Pa_readEscaped : q_Mt 31 = some q_mPa_readEscaped := rfl
theorem q_Mt_Pa_readItem : q_Mt 32 = some q_mPa_readItem := rfl
theorem q_Mt_Pa_isItem : q_Mt 33 = some q_mPa_isItem := rfl
theorem q_Mt_Pa_readCharacter : q_Mt 34 = some q_mPa_readCharacter := rfl
theorem q_Mt_Pa_standsForItself : q_Mt 35 = some q_mPa_standsForItself := rfl
theorem q_Mt_Pa_readCount : q_Mt 36 = some q_mPa_readCount := rfl
theorem q_Mt_Pa_readBraces : q_Mt 37 = some q_mPa_readBraces := rfl
theorem q_Mt_Pa_digit : q_Mt 38 = some q_mPa_digit := rfl
theorem q_Mt_Pa_readMost : q_Mt 39 = some q_mPa_readMost := rfl
theorem q_Mt_Pr_init : q_Mt 40 = some q_mPr_init := rfl
theorem q_Mt_Pr_isWritten : q_Mt 41 = some q_mPr_isWritten := rfl
theorem q_Mt_Pr_erase : q_Mt 42 = some q_mPr_erase := rfl
theorem q_Mt_Pr_has : q_Mt 43 = some q_mPr_has := rfl
theorem q_Mt_Pr_kindOf : q_Mt 44 = some q_mPr_kindOf := rfl
theorem q_Mt_Pr_xOf : q_Mt 45 = some q_mPr_xOf := rfl
theorem q_Mt_Pr_yOf : q_Mt 46 = some q_mPr_yOf := rfl
theorem q_Mt_Pr_write : q_Mt 47 = some q_mPr_write := rfl
theorem q_Mt_Pr_add : q_Mt 48 = some q_mPr_add := rfl
theorem q_Mt_Pr_writeChoice : q_Mt 49 = some q_mPr_writeChoice := rfl
theorem q_Mt_Pr_writeRepeat : q_Mt 50 = some q_mPr_writeRepeat := rfl
theorem q_Mt_Pr_writeAtom : q_Mt 51 = some q_mPr_writeAtom := rfl
theorem q_Mt_Pr_addSplit : q_Mt 52 = some q_mPr_addSplit := rfl
theorem q_Mt_Rp_init : q_Mt 53 = some q_mRp_init := rfl
theorem q_Mt_Rp_size : q_Mt 54 = some q_mRp_size := rfl
theorem q_Mt_Rw_init : q_Mt 55 = some q_mRw_init := rfl
theorem q_Mt_Rw_sizeAsChoice : q_Mt 56 = some q_mRw_sizeAsChoice := rfl
theorem q_Mt_Rw_append : q_Mt 57 = some q_mRw_append := rfl
theorem q_Mt_Wk_init : q_Mt 58 = some q_mWk_init := rfl
theorem q_Mt_Wk_end : q_Mt 59 = some q_mWk_end := rfl
theorem q_Mt_Wk_begin : q_Mt 60 = some q_mWk_begin := rfl
theorem q_Mt_Wk_followFromStart : q_Mt 61 = some q_mWk_followFromStart := rfl
theorem q_Mt_Wk_follow : q_Mt 62 = some q_mWk_follow := rfl
theorem q_Mt_Wk_push : q_Mt 63 = some q_mWk_push := rfl
theorem q_Mt_Wk_visit : q_Mt 64 = some q_mWk_visit := rfl
theorem q_Mt_Wk_passMark : q_Mt 65 = some q_mWk_passMark := rfl
theorem q_Mt_Wk_keepMatch : q_Mt 66 = some q_mWk_keepMatch := rfl
theorem q_Mt_Wk_setMark : q_Mt 67 = some q_mWk_setMark := rfl
theorem q_Mt_Wk_step : q_Mt 68 = some q_mWk_step := rfl
theorem q_Mt_Wk_standsAt : q_Mt 69 = some q_mWk_standsAt := rfl
theorem q_Mt_Wk_foundMark : q_Mt 70 = some q_mWk_foundMark := rfl
theorem q_Mt_Wy_init : q_Mt 71 = some q_mWy_init := rfl
theorem q_Mt_Wy_add : q_Mt 72 = some q_mWy_add := rfl
theorem q_Mt_Wy_takeOf : q_Mt 73 = some q_mWy_takeOf := rfl
theorem q_Mt_Wy_copyMarks : q_Mt 74 = some q_mWy_copyMarks := rfl
theorem q_Mt_Md_init : q_Mt 75 = some q_mMd_init := rfl
theorem q_Mt_Md_thrown : q_Mt 76 = some q_mMd_thrown := rfl
theorem q_Mt_Md_pattern : q_Mt 77 = some q_mMd_pattern := rfl
theorem q_Mt_Md_compile : q_Mt 78 = some q_mMd_compile := rfl
theorem q_Mt_Md_read : q_Mt 79 = some q_mMd_read := rfl
theorem q_Mt_Md_node : q_Mt 80 = some q_mMd_node := rfl
theorem q_Mt_Md_here : q_Mt 81 = some q_mMd_here := rfl
theorem q_Mt_Md_open : q_Mt 82 = some q_mMd_open := rfl
theorem q_Mt_Md_readCount : q_Mt 83 = some q_mMd_readCount := rfl
theorem q_Mt_Md_readBraces : q_Mt 84 = some q_mMd_readBraces := rfl
theorem q_Mt_Md_isDigit : q_Mt 85 = some q_mMd_isDigit := rfl
theorem q_Mt_Md_readSign : q_Mt 86 = some q_mMd_readSign := rfl
theorem q_Mt_Md_isPlain : q_Mt 87 = some q_mMd_isPlain := rfl
theorem q_Mt_Md_newSet : q_Mt 88 = some q_mMd_newSet := rfl
theorem q_Mt_Md_readSet : q_Mt 89 = some q_mMd_readSet := rfl
theorem q_Mt_Md_includeSpecial : q_Mt 90 = some q_mMd_includeSpecial := rfl
theorem q_Mt_Md_include : q_Mt 91 = some q_mMd_include := rfl
theorem q_Mt_Md_isItem : q_Mt 92 = some q_mMd_isItem := rfl
theorem q_Mt_Md_widthOf : q_Mt 93 = some q_mMd_widthOf := rfl
theorem q_Mt_Md_put : q_Mt 94 = some q_mMd_put := rfl
theorem q_Mt_Md_later : q_Mt 95 = some q_mMd_later := rfl
theorem q_Mt_Md_writeNode : q_Mt 96 = some q_mMd_writeNode := rfl
theorem q_Mt_Md_writeChoice : q_Mt 97 = some q_mMd_writeChoice := rfl
theorem q_Mt_Md_writeRepeat : q_Mt 98 = some q_mMd_writeRepeat := rfl
theorem q_Mt_Md_split : q_Mt 99 = some q_mMd_split := rfl
theorem q_Mt_Md_position : q_Mt 100 = some q_mMd_position := rfl
theorem q_Mt_Md_clear : q_Mt 101 = some q_mMd_clear := rfl
theorem q_Mt_Md_instruction : q_Mt 102 = some q_mMd_instruction := rfl
theorem q_Mt_Md_many : q_Mt 103 = some q_mMd_many := rfl
theorem q_Mt_Md_has : q_Mt 104 = some q_mMd_has := rfl
theorem q_Mt_Md_groups : q_Mt 105 = some q_mMd_groups := rfl
theorem q_Mt_Md_start : q_Mt 106 = some q_mMd_start := rfl
theorem q_Mt_Md_feed : q_Mt 107 = some q_mMd_feed := rfl
theorem q_Mt_Md_matched : q_Mt 108 = some q_mMd_matched := rfl
theorem q_Mt_Md_work : q_Mt 109 = some q_mMd_work := rfl
theorem q_Mt_Md_fill : q_Mt 110 = some q_mMd_fill := rfl
theorem q_Mt_Md_reaches : q_Mt 111 = some q_mMd_reaches := rfl
theorem q_Mt_Md_may : q_Mt 112 = some q_mMd_may := rfl
theorem q_Mt_Md_takes : q_Mt 113 = some q_mMd_takes := rfl
theorem q_Mt_Md_isMatch : q_Mt 114 = some q_mMd_isMatch := rfl
theorem q_Mt_Md_spread : q_Mt 115 = some q_mMd_spread := rfl
theorem q_Mt_Md_choose : q_Mt 116 = some q_mMd_choose := rfl
theorem q_Mt_Md_setMarks : q_Mt 117 = some q_mMd_setMarks := rfl
theorem q_Mt_Md_step : q_Mt 118 = some q_mMd_step := rfl
theorem q_Mt_Md_live : q_Mt 119 = some q_mMd_live := rfl
theorem q_Mt_Md_isLive : q_Mt 120 = some q_mMd_isLive := rfl
theorem q_Mt_Md_mark : q_Mt 121 = some q_mMd_mark := rfl
theorem q_Mt_Md_fed : q_Mt 122 = some q_mMd_fed := rfl
theorem q_Mt_Ar_fill : q_Mt 123 = some q_mAr_fill := rfl
theorem q_Mt_Ar_fill2 : q_Mt 124 = some q_mAr_fill2 := rfl
theorem q_Mt_Lo_bitCount : q_Mt 125 = some q_mLo_bitCount := rfl
def q_Ns : List Cond := lw_tbl.filter q_isN
theorem q_Ns_isN : ∀ w ∈ q_Ns, q_isN w = true := fun w hw => (List.mem_filter.mp hw).2
theorem q_inN (i : Nat) {w : Cond} (h : lw_tbl[i]? = some w) (hg : q_isN w = true) : w ∈ q_Ns := List.mem_filter.mpr ⟨List.mem_of_getElem? h, hg⟩
