/-! class tables, string constants -/
def nC (k : Nat) : String := match k with
  | 0 => "TwinTools$Bell"
  | 1 => "TwinTools$Guessing"
  | 2 => "TwinTools$Hand"
  | 3 => "TwinTools$Home"
  | 4 => "TwinTools$Late"
  | 5 => "TwinTools$Lifting"
  | 6 => "TwinTools$Plan"
  | 7 => "TwinTools$Told"
  | 8 => "TwinTools$Trace"
  | 9 => "TwinTools$Valley"
  | 10 => "TwinTools$World"
  | 11 => "TwinTools"
  | _ => "TwinToolsModel"
def T_0 : u_T := fun k => match k with
  | 0 => ("TwinTools$Hand", "kind", "I", true)
  | 1 => ("TwinTools$Hand", "number", "I", true)
  | 2 => ("TwinTools$Hand", "v", "I", true)
  | _ => ("TwinTools$Hand", "house", "I", true)
def t_0 : Nat → FieldType := fun k => match k with
  | 0 => .int
  | 1 => .int
  | 2 => .int
  | _ => .int
def T_1 : u_T := fun k => match k with
  | 0 => ("TwinTools$Hand", "kind", "I", true)
  | 1 => ("TwinTools$Hand", "number", "I", true)
  | 2 => ("TwinTools$Hand", "v", "I", true)
  | _ => ("TwinTools$Hand", "house", "I", true)
def t_1 : Nat → FieldType := fun k => match k with
  | 0 => .int
  | 1 => .int
  | 2 => .int
  | _ => .int
def T_2 : u_T := fun k => match k with
  | 0 => ("TwinTools$Hand", "kind", "I", true)
  | 1 => ("TwinTools$Hand", "number", "I", true)
  | 2 => ("TwinTools$Hand", "v", "I", true)
  | _ => ("TwinTools$Hand", "house", "I", true)
def t_2 : Nat → FieldType := fun k => match k with
  | 0 => .int
  | 1 => .int
  | 2 => .int
  | _ => .int
def T_3 : u_T := fun k => match k with
  | 0 => ("TwinTools$Hand", "kind", "I", true)
  | 1 => ("TwinTools$Hand", "number", "I", true)
  | 2 => ("TwinTools$Hand", "v", "I", true)
  | _ => ("TwinTools$Hand", "house", "I", true)
def t_3 : Nat → FieldType := fun k => match k with
  | 0 => .int
  | 1 => .int
  | 2 => .int
  | _ => .int
def T_4 : u_T := fun k => match k with
  | 0 => ("TwinTools$Hand", "kind", "I", true)
  | 1 => ("TwinTools$Hand", "number", "I", true)
  | 2 => ("TwinTools$Hand", "v", "I", true)
  | _ => ("TwinTools$Hand", "house", "I", true)
def t_4 : Nat → FieldType := fun k => match k with
  | 0 => .int
  | 1 => .int
  | 2 => .int
  | _ => .int
def T_5 : u_T := fun k => match k with
  | 0 => ("TwinTools$Hand", "kind", "I", true)
  | 1 => ("TwinTools$Hand", "number", "I", true)
  | 2 => ("TwinTools$Hand", "v", "I", true)
  | _ => ("TwinTools$Hand", "house", "I", true)
def t_5 : Nat → FieldType := fun k => match k with
  | 0 => .int
  | 1 => .int
  | 2 => .int
  | _ => .int
def T_6 : u_T := fun k => match k with
  | 0 => ("TwinTools$Plan", "guess", "LTwinTools$World;", true)
  | 1 => ("TwinTools$Plan", "world", "LTwinTools$World;", false)
  | 2 => ("TwinTools$Plan", "bell", "I", false)
  | 3 => ("TwinTools$Plan", "worth", "[[I", true)
  | 4 => ("TwinTools$Plan", "held", "[I", true)
  | 5 => ("TwinTools$Plan", "twinHeld", "[I", true)
  | 6 => ("TwinTools$Plan", "fit", "I", false)
  | 7 => ("TwinTools$Plan", "inOneHouse", "I", false)
  | 8 => ("TwinTools$Plan", "pairs", "[I", true)
  | 9 => ("TwinTools$Plan", "pairHolders", "[I", true)
  | 10 => ("TwinTools$Plan", "pairHours", "[I", true)
  | 11 => ("TwinTools$Plan", "pairCount", "I", false)
  | 12 => ("TwinTools$Plan", "setHolders", "[I", true)
  | 13 => ("TwinTools$Plan", "setHours", "[I", true)
  | 14 => ("TwinTools$Plan", "setWorth", "[I", true)
  | 15 => ("TwinTools$Plan", "changeOne", "I", false)
  | 16 => ("TwinTools$Plan", "changeOther", "I", false)
  | 17 => ("TwinTools$Plan", "changeMore", "I", false)
  | 18 => ("TwinTools$Plan", "joinRow", "[I", true)
  | _ => ("TwinTools$Plan", "joinBest", "I", false)
def t_6 : Nat → FieldType := fun k => match k with
  | 0 => .object "TwinTools$World"
  | 1 => .object "TwinTools$World"
  | 2 => .int
  | 3 => .array (.array .int)
  | 4 => .array .int
  | 5 => .array .int
  | 6 => .int
  | 7 => .int
  | 8 => .array .int
  | 9 => .array .int
  | 10 => .array .int
  | 11 => .int
  | 12 => .array .int
  | 13 => .array .int
  | 14 => .array .int
  | 15 => .int
  | 16 => .int
  | 17 => .int
  | 18 => .array .int
  | _ => .int
def T_7 : u_T := fun k => match k with
  | 0 => ("TwinTools$Hand", "kind", "I", true)
  | 1 => ("TwinTools$Hand", "number", "I", true)
  | 2 => ("TwinTools$Hand", "v", "I", true)
  | _ => ("TwinTools$Hand", "house", "I", true)
def t_7 : Nat → FieldType := fun k => match k with
  | 0 => .int
  | 1 => .int
  | 2 => .int
  | _ => .int
def T_8 : u_T := fun k => match k with
  | 0 => ("TwinTools$Trace", "bodies", "[I", true)
  | _ => ("TwinTools$Trace", "size", "I", false)
def t_8 : Nat → FieldType := fun k => match k with
  | 0 => .array .int
  | _ => .int
def T_9 : u_T := fun k => match k with
  | 0 => ("TwinTools$Valley", "bell", "I", false)
  | 1 => ("TwinTools$Valley", "amounts", "[I", true)
  | 2 => ("TwinTools$Valley", "ends", "[I", true)
  | 3 => ("TwinTools$Valley", "clauseCount", "I", false)
  | 4 => ("TwinTools$Valley", "steps", "[I", true)
  | 5 => ("TwinTools$Valley", "stepCount", "I", false)
  | 6 => ("TwinTools$Valley", "facts", "[I", true)
  | 7 => ("TwinTools$Valley", "parts", "[I", true)
  | 8 => ("TwinTools$Valley", "text", "[B", true)
  | 9 => ("TwinTools$Valley", "size", "I", false)
  | 10 => ("TwinTools$Valley", "place", "I", false)
  | _ => ("TwinTools$Valley", "number", "I", false)
def t_9 : Nat → FieldType := fun k => match k with
  | 0 => .int
  | 1 => .array .int
  | 2 => .array .int
  | 3 => .int
  | 4 => .array .int
  | 5 => .int
  | 6 => .array .int
  | 7 => .array .int
  | 8 => .array .byte
  | 9 => .int
  | 10 => .int
  | _ => .int
def T_10 : u_T := fun k => match k with
  | 0 => ("TwinTools$World", "tape", "[B", true)
  | 1 => ("TwinTools$World", "signs", "I", false)
  | 2 => ("TwinTools$World", "valleys", "[LTwinTools$Valley;", true)
  | 3 => ("TwinTools$World", "valleyCount", "I", false)
  | 4 => ("TwinTools$World", "people", "[LTwinTools$Hand;", true)
  | 5 => ("TwinTools$World", "peopleCount", "I", false)
  | 6 => ("TwinTools$World", "free", "[I", true)
  | 7 => ("TwinTools$World", "rows", "[I", true)
  | 8 => ("TwinTools$World", "sort", "[I", true)
  | 9 => ("TwinTools$World", "holder", "[I", true)
  | 10 => ("TwinTools$World", "twin", "[I", true)
  | 11 => ("TwinTools$World", "broken", "I", false)
  | 12 => ("TwinTools$World", "toolCount", "I", false)
  | 13 => ("TwinTools$World", "trialOne", "[I", true)
  | 14 => ("TwinTools$World", "trialOther", "[I", true)
  | 15 => ("TwinTools$World", "trialsThatWent", "I", false)
  | 16 => ("TwinTools$World", "trialCount", "I", false)
  | 17 => ("TwinTools$World", "bookHour", "[I", true)
  | 18 => ("TwinTools$World", "bookTool", "[I", true)
  | _ => ("TwinTools$World", "bookCount", "I", false)
def t_10 : Nat → FieldType := fun k => match k with
  | 0 => .array .byte
  | 1 => .int
  | 2 => .array (.object "TwinTools$Valley")
  | 3 => .int
  | 4 => .array (.object "TwinTools$Hand")
  | 5 => .int
  | 6 => .array .int
  | 7 => .array .int
  | 8 => .array .int
  | 9 => .array .int
  | 10 => .array .int
  | 11 => .int
  | 12 => .int
  | 13 => .array .int
  | 14 => .array .int
  | 15 => .int
  | 16 => .int
  | 17 => .array .int
  | 18 => .array .int
  | _ => .int
def T_11 : u_T := fun k => match k with
  | 0 => ("TwinTools", "now", "LTwinTools$World;", true)
  | 1 => ("TwinTools", "kept", "LTwinTools$World;", true)
  | 2 => ("TwinTools", "hasKept", "Z", false)
  | 3 => ("TwinTools", "plan", "LTwinTools$Plan;", true)
  | 4 => ("TwinTools", "ran", "LTwinTools$Trace;", true)
  | _ => ("TwinTools", "spare", "LTwinTools$Valley;", false)
def t_11 : Nat → FieldType := fun k => match k with
  | 0 => .object "TwinTools$World"
  | 1 => .object "TwinTools$World"
  | 2 => .boolean
  | 3 => .object "TwinTools$Plan"
  | 4 => .object "TwinTools$Trace"
  | _ => .object "TwinTools$Valley"
def T_12 : u_T := fun k => match k with
  | 0 => ("TwinToolsModel", "thrown", "I", false)
  | 1 => ("TwinToolsModel", "s", "[I", true)
  | 2 => ("TwinToolsModel", "image", "[I", true)
  | 3 => ("TwinToolsModel", "hasImage", "Z", false)
  | 4 => ("TwinToolsModel", "act", "I", false)
  | 5 => ("TwinToolsModel", "spot", "I", false)
  | 6 => ("TwinToolsModel", "end", "I", false)
  | 7 => ("TwinToolsModel", "isWrong", "Z", false)
  | 8 => ("TwinToolsModel", "open", "I", false)
  | 9 => ("TwinToolsModel", "by", "[I", true)
  | 10 => ("TwinToolsModel", "truths", "[Z", true)
  | 11 => ("TwinToolsModel", "most", "I", false)
  | 12 => ("TwinToolsModel", "mostSet", "I", false)
  | 13 => ("TwinToolsModel", "manyAtOnce", "I", false)
  | 14 => ("TwinToolsModel", "twins", "[I", true)
  | 15 => ("TwinToolsModel", "bestTwins", "[I", true)
  | 16 => ("TwinToolsModel", "bestJoined", "I", false)
  | 17 => ("TwinToolsModel", "isJoined", "Z", false)
  | 18 => ("TwinToolsModel", "bodies", "[I", true)
  | 19 => ("TwinToolsModel", "ran", "I", false)
  | 20 => ("TwinToolsModel", "kind", "I", false)
  | 21 => ("TwinToolsModel", "number", "I", false)
  | _ => ("TwinToolsModel", "tellsV", "I", false)
def t_12 : Nat → FieldType := fun k => match k with
  | 0 => .int
  | 1 => .array .int
  | 2 => .array .int
  | 3 => .boolean
  | 4 => .int
  | 5 => .int
  | 6 => .int
  | 7 => .boolean
  | 8 => .int
  | 9 => .array .int
  | 10 => .array .boolean
  | 11 => .int
  | 12 => .int
  | 13 => .int
  | 14 => .array .int
  | 15 => .array .int
  | 16 => .int
  | 17 => .boolean
  | 18 => .array .int
  | 19 => .int
  | 20 => .int
  | 21 => .int
  | _ => .int
abbrev tCl : List vw_C := [("TwinTools$Bell", T_0, 4), ("TwinTools$Guessing", T_1, 4), ("TwinTools$Hand", T_2, 4), ("TwinTools$Home", T_3, 4), ("TwinTools$Late", T_4, 4), ("TwinTools$Lifting", T_5, 4), ("TwinTools$Plan", T_6, 20), ("TwinTools$Told", T_7, 4), ("TwinTools$Trace", T_8, 2), ("TwinTools$Valley", T_9, 12), ("TwinTools$World", T_10, 20), ("TwinTools", T_11, 6), ("TwinToolsModel", T_12, 23)]
/-- which fields of a class are references -/
def tRefL : List (List Bool) := [[false, false, false, false], [false, false, false, false], [false, false, false, false], [false, false, false, false], [false, false, false, false], [false, false, false, false], [true, true, false, true, true, true, false, false, true, true, true, false, true, true, true, false, false, false, true, false], [false, false, false, false], [true, false], [false, true, true, false, true, false, true, true, true, false, false, false], [true, false, true, false, true, false, true, true, true, true, true, false, false, true, true, false, false, true, true, false], [true, true, false, true, true, true], [false, true, true, false, false, false, false, false, false, true, true, false, false, false, true, true, false, false, true, false, false, false, false]]
def tRef (c k : Nat) : Bool := (tRefL.getD c []).getD k false
/-- the string constants: class, entry, text, number -/
def sTab : List (String × Nat × String × Nat) := [("TwinTools$Valley", 74, "worth ", 0), ("TwinTools$Valley", 119, "0123456789", 1), ("TwinTools$Valley", 111, "hstkx", 2), ("TwinTools$Valley", 117, "<=>", 3), ("TwinTools$Valley", 84, "less ", 4), ("TwinTools$Valley", 86, "bell ", 5), ("TwinToolsModel", 102, "worth ", 0), ("TwinToolsModel", 84, "hstkx", 2), ("TwinToolsModel", 90, "<=>", 3), ("TwinToolsModel", 108, "less ", 4), ("TwinToolsModel", 110, "bell ", 5)]
def sLen : List Nat := [6, 10, 5, 3, 5, 5]
def sByt : List (List Int32) := [[119, 111, 114, 116, 104, 32], [48, 49, 50, 51, 52, 53, 54, 55, 56, 57], [104, 115, 116, 107, 120], [60, 61, 62], [108, 101, 115, 115, 32], [98, 101, 108, 108, 32]]
def castL : List (String × String) := [("TwinTools$Lifting", "TwinTools$Bell"), ("TwinTools$Late", "TwinTools$Home"), ("TwinTools$Told", "TwinTools$Guessing"), ("TwinTools$Bell", "TwinTools$Hand"), ("TwinTools$Home", "TwinTools$Hand"), ("TwinTools$Guessing", "TwinTools$Hand"), ("TwinTools$Lifting", "TwinTools$Hand"), ("TwinTools$Late", "TwinTools$Hand"), ("TwinTools$Told", "TwinTools$Hand")]
def ncL : List (String × String) := [("TwinTools$Bell", "TwinTools$Told"), ("TwinTools$Home", "TwinTools$Told"), ("TwinTools$Guessing", "TwinTools$Told"), ("TwinTools$Lifting", "TwinTools$Told"), ("TwinTools$Late", "TwinTools$Told"), ("TwinTools$Hand", "TwinTools$Told"), ("TwinTools$Home", "TwinTools$Bell"), ("TwinTools$Guessing", "TwinTools$Bell"), ("TwinTools$Late", "TwinTools$Bell"), ("TwinTools$Told", "TwinTools$Bell"), ("TwinTools$Hand", "TwinTools$Bell"), ("TwinTools$Bell", "TwinTools$Home"), ("TwinTools$Guessing", "TwinTools$Home"), ("TwinTools$Lifting", "TwinTools$Home"), ("TwinTools$Told", "TwinTools$Home"), ("TwinTools$Hand", "TwinTools$Home"), ("TwinTools$Bell", "TwinTools$Guessing"), ("TwinTools$Home", "TwinTools$Guessing"), ("TwinTools$Lifting", "TwinTools$Guessing"), ("TwinTools$Late", "TwinTools$Guessing"), ("TwinTools$Hand", "TwinTools$Guessing"), ("TwinTools$Bell", "TwinTools$Lifting"), ("TwinTools$Home", "TwinTools$Lifting"), ("TwinTools$Guessing", "TwinTools$Lifting"), ("TwinTools$Late", "TwinTools$Lifting"), ("TwinTools$Told", "TwinTools$Lifting"), ("TwinTools$Hand", "TwinTools$Lifting"), ("TwinTools$Bell", "TwinTools$Late"), ("TwinTools$Home", "TwinTools$Late"), ("TwinTools$Guessing", "TwinTools$Late"), ("TwinTools$Lifting", "TwinTools$Late"), ("TwinTools$Told", "TwinTools$Late"), ("TwinTools$Hand", "TwinTools$Late")]
def tw_AOA (U : State) : Prop := ∃ (comp c : ClassId) (k : Class), U.vm.findClass (FieldType.array .int).toString = some comp ∧ (U.vm.classes.findIdx? fun (x : Class) => match x.kind with | .array component _ => component == comp | _ => false) = some c ∧ U.vm.classes[c]? = some k ∧ k.kind = .array comp (.array .int) ∧ U.vm.findClass ("[" ++ (FieldType.array .int).toString) = some c
theorem tw_AOA_moved {u U : State} (hvm : u.vm.Alike U.vm) (h : tw_AOA u) : tw_AOA U := by
  obtain ⟨comp, c, k, h1, h2, h3, h4, h5⟩ := h
  obtain ⟨k', hk', he⟩ := hvm.2.2 _ _ h3
  refine ⟨comp, c, k', by rw [hvm.findClass]; exact h1, ?_, hk', by rw [he]; exact h4, by rw [hvm.findClass]; exact h5⟩
  refine (va_idx_bare U.vm comp).symm.trans ?_
  first | rw [hvm.bare_eq] | rw [← hvm.bare_eq]
  exact (va_idx_bare u.vm comp).trans h2
theorem tw_AOA_same {u U : State} (hv : U.vm = u.vm) (h : tw_AOA u) : tw_AOA U := tw_AOA_moved (by rw [hv]; exact Vm.Alike.refl _) h
