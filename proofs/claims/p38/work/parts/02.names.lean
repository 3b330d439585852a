abbrev RC (C : String) : String := C
def R_LC : String := "Leastcode"
def T_LC : u_T := fun k => match k with
  | 0 => ("Leastcode", "machine", "LLeastcode$Machine;", true)
  | 1 => ("Leastcode", "prices", "LLeastcode$Prices;", true)
  | 2 => ("Leastcode", "lots", "LLeastcode$Lots;", true)
  | 3 => ("Leastcode", "search", "LLeastcode$Search;", true)
  | 4 => ("Leastcode", "programs", "[LLeastcode$Code;", true)
  | 5 => ("Leastcode", "programCount", "I", false)
  | 6 => ("Leastcode", "goals", "[LLeastcode$Goal;", true)
  | 7 => ("Leastcode", "goalCount", "I", false)
  | 8 => ("Leastcode", "rules", "[LLeastcode$Rule;", true)
  | 9 => ("Leastcode", "ruleCount", "I", false)
  | 10 => ("Leastcode", "killed", "[I", true)
  | 11 => ("Leastcode", "unlikeUpTo", "[I", true)
  | 12 => ("Leastcode", "found", "LLeastcode$Code;", true)
  | 13 => ("Leastcode", "hasFound", "Z", false)
  | 14 => ("Leastcode", "draft", "LLeastcode$Code;", true)
  | 15 => ("Leastcode", "shorter", "LLeastcode$Code;", true)
  | _ => ("Leastcode", "windowGoal", "LLeastcode$Goal;", true)
def t_LC : Nat → FieldType := fun k => match k with
  | 0 => .object "Leastcode$Machine"
  | 1 => .object "Leastcode$Prices"
  | 2 => .object "Leastcode$Lots"
  | 3 => .object "Leastcode$Search"
  | 4 => .array (.object "Leastcode$Code")
  | 5 => .int
  | 6 => .array (.object "Leastcode$Goal")
  | 7 => .int
  | 8 => .array (.object "Leastcode$Rule")
  | 9 => .int
  | 10 => .array .int
  | 11 => .array .int
  | 12 => .object "Leastcode$Code"
  | 13 => .boolean
  | 14 => .object "Leastcode$Code"
  | 15 => .object "Leastcode$Code"
  | _ => .object "Leastcode$Goal"
theorem n_LC : ∀ a, a < 17 → ∀ b, b < 17 → a ≠ b → (T_LC a).2.1 ≠ (T_LC b).2.1 := by decide +kernel
theorem t_LC_ok : ∀ k, k < 17 → parseFieldDescriptor (T_LC k).2.2.1 = some (t_LC k) := by decide +kernel
def R_MA : String := "Leastcode$Machine"
def T_MA : u_T := fun k => match k with
  | 0 => ("Leastcode$Machine", "next", "[I", true)
  | 1 => ("Leastcode$Machine", "readParts", "[I", true)
  | 2 => ("Leastcode$Machine", "writtenParts", "[I", true)
  | 3 => ("Leastcode$Machine", "mirrors", "[I", true)
  | 4 => ("Leastcode$Machine", "toRegister0", "[J", true)
  | 5 => ("Leastcode$Machine", "toRegister1", "[J", true)
  | _ => ("Leastcode$Machine", "toFlag", "[J", true)
def t_MA : Nat → FieldType := fun k => match k with
  | 0 => .array .int
  | 1 => .array .int
  | 2 => .array .int
  | 3 => .array .int
  | 4 => .array .long
  | 5 => .array .long
  | _ => .array .long
theorem n_MA : ∀ a, a < 7 → ∀ b, b < 7 → a ≠ b → (T_MA a).2.1 ≠ (T_MA b).2.1 := by decide +kernel
theorem t_MA_ok : ∀ k, k < 7 → parseFieldDescriptor (T_MA k).2.2.1 = some (t_MA k) := by decide +kernel
def R_CO : String := "Leastcode$Code"
def T_CO : u_T := fun k => match k with
  | 0 => ("Leastcode$Code", "numbers", "[I", true)
  | _ => ("Leastcode$Code", "length", "I", false)
def t_CO : Nat → FieldType := fun k => match k with
  | 0 => .array .int
  | _ => .int
theorem n_CO : ∀ a, a < 2 → ∀ b, b < 2 → a ≠ b → (T_CO a).2.1 ≠ (T_CO b).2.1 := by decide +kernel
theorem t_CO_ok : ∀ k, k < 2 → parseFieldDescriptor (T_CO k).2.2.1 = some (t_CO k) := by decide +kernel
def R_PR : String := "Leastcode$Prices"
def T_PR : u_T := fun k => match k with
  | 0 => ("Leastcode$Prices", "byKind", "[I", true)
  | _ => ("Leastcode$Prices", "waitCost", "I", false)
def t_PR : Nat → FieldType := fun k => match k with
  | 0 => .array .int
  | _ => .int
theorem n_PR : ∀ a, a < 2 → ∀ b, b < 2 → a ≠ b → (T_PR a).2.1 ≠ (T_PR b).2.1 := by decide +kernel
theorem t_PR_ok : ∀ k, k < 2 → parseFieldDescriptor (T_PR k).2.2.1 = some (t_PR k) := by decide +kernel
def R_LO : String := "Leastcode$Lots"
def T_LO : u_T := fun k => match k with
  | _ => ("Leastcode$Lots", "z", "I", false)
def t_LO : Nat → FieldType := fun k => match k with
  | _ => .int
theorem n_LO : ∀ a, a < 1 → ∀ b, b < 1 → a ≠ b → (T_LO a).2.1 ≠ (T_LO b).2.1 := by decide +kernel
theorem t_LO_ok : ∀ k, k < 1 → parseFieldDescriptor (T_LO k).2.2.1 = some (t_LO k) := by decide +kernel
def R_SE : String := "Leastcode$Search"
def T_SE : u_T := fun k => match k with
  | 0 => ("Leastcode$Search", "machine", "LLeastcode$Machine;", true)
  | 1 => ("Leastcode$Search", "ahead", "LLeastcode$Code;", true)
  | _ => ("Leastcode$Search", "refusing", "I", false)
def t_SE : Nat → FieldType := fun k => match k with
  | 0 => .object "Leastcode$Machine"
  | 1 => .object "Leastcode$Code"
  | _ => .int
theorem n_SE : ∀ a, a < 3 → ∀ b, b < 3 → a ≠ b → (T_SE a).2.1 ≠ (T_SE b).2.1 := by decide +kernel
theorem t_SE_ok : ∀ k, k < 3 → parseFieldDescriptor (T_SE k).2.2.1 = some (t_SE k) := by decide +kernel
def R_GO : String := "Leastcode$Goal"
def T_GO : u_T := fun k => match k with
  | 0 => ("Leastcode$Goal", "wanted", "[I", true)
  | _ => ("Leastcode$Goal", "liveParts", "I", false)
def t_GO : Nat → FieldType := fun k => match k with
  | 0 => .array .int
  | _ => .int
theorem n_GO : ∀ a, a < 2 → ∀ b, b < 2 → a ≠ b → (T_GO a).2.1 ≠ (T_GO b).2.1 := by decide +kernel
theorem t_GO_ok : ∀ k, k < 2 → parseFieldDescriptor (T_GO k).2.2.1 = some (t_GO k) := by decide +kernel
def R_RU : String := "Leastcode$Rule"
def T_RU : u_T := fun k => match k with
  | 0 => ("Leastcode$Rule", "left", "LLeastcode$Code;", true)
  | 1 => ("Leastcode$Rule", "right", "LLeastcode$Code;", true)
  | 2 => ("Leastcode$Rule", "mirroredLeft", "LLeastcode$Code;", true)
  | 3 => ("Leastcode$Rule", "mirroredRight", "LLeastcode$Code;", true)
  | 4 => ("Leastcode$Rule", "kept", "I", false)
  | 5 => ("Leastcode$Rule", "mirroredKept", "I", false)
  | _ => ("Leastcode$Rule", "taken", "I", false)
def t_RU : Nat → FieldType := fun k => match k with
  | 0 => .object "Leastcode$Code"
  | 1 => .object "Leastcode$Code"
  | 2 => .object "Leastcode$Code"
  | 3 => .object "Leastcode$Code"
  | 4 => .int
  | 5 => .int
  | _ => .int
theorem n_RU : ∀ a, a < 7 → ∀ b, b < 7 → a ≠ b → (T_RU a).2.1 ≠ (T_RU b).2.1 := by decide +kernel
theorem t_RU_ok : ∀ k, k < 7 → parseFieldDescriptor (T_RU k).2.2.1 = some (t_RU k) := by decide +kernel
def R_MO : String := "LeastcodeModel"
def T_MO : u_T := fun k => match k with
  | 0 => ("LeastcodeModel", "programs", "Ljava/util/ArrayList;", true)
  | 1 => ("LeastcodeModel", "goals", "Ljava/util/ArrayList;", true)
  | 2 => ("LeastcodeModel", "rules", "Ljava/util/ArrayList;", true)
  | 3 => ("LeastcodeModel", "prices", "[I", true)
  | 4 => ("LeastcodeModel", "kills", "[I", true)
  | 5 => ("LeastcodeModel", "found", "Ljava/util/List;", false)
  | 6 => ("LeastcodeModel", "wait", "I", false)
  | 7 => ("LeastcodeModel", "thrown", "I", false)
  | _ => ("LeastcodeModel", "z", "J", false)
def t_MO : Nat → FieldType := fun k => match k with
  | 0 => .object "java/util/ArrayList"
  | 1 => .object "java/util/ArrayList"
  | 2 => .object "java/util/ArrayList"
  | 3 => .array .int
  | 4 => .array .int
  | 5 => .object "java/util/List"
  | 6 => .int
  | 7 => .int
  | _ => .long
theorem n_MO : ∀ a, a < 9 → ∀ b, b < 9 → a ≠ b → (T_MO a).2.1 ≠ (T_MO b).2.1 := by decide +kernel
theorem t_MO_ok : ∀ k, k < 9 → parseFieldDescriptor (T_MO k).2.2.1 = some (t_MO k) := by decide +kernel
def R_AL : String := "java/util/ArrayList"
def T_AL : u_T := fun k => match k with
  | 0 => ("java/util/AbstractList", "modCount", "I", false)
  | 1 => ("java/util/ArrayList", "elementData", "[Ljava/lang/Object;", false)
  | _ => ("java/util/ArrayList", "size", "I", false)
def t_AL : Nat → FieldType := fun k => match k with
  | 0 => .int
  | 1 => .array (.object "java/lang/Object")
  | _ => .int
theorem n_AL : ∀ a, a < 3 → ∀ b, b < 3 → a ≠ b → (T_AL a).2.1 ≠ (T_AL b).2.1 := by decide +kernel
theorem t_AL_ok : ∀ k, k < 3 → parseFieldDescriptor (T_AL k).2.2.1 = some (t_AL k) := by decide +kernel
def R_IT : String := "java/util/ArrayList$Itr"
def T_IT : u_T := fun k => match k with
  | 0 => ("java/util/ArrayList$Itr", "cursor", "I", false)
  | 1 => ("java/util/ArrayList$Itr", "lastRet", "I", false)
  | 2 => ("java/util/ArrayList$Itr", "expectedModCount", "I", false)
  | _ => ("java/util/ArrayList$Itr", "this$0", "Ljava/util/ArrayList;", true)
def t_IT : Nat → FieldType := fun k => match k with
  | 0 => .int
  | 1 => .int
  | 2 => .int
  | _ => .object "java/util/ArrayList"
theorem n_IT : ∀ a, a < 4 → ∀ b, b < 4 → a ≠ b → (T_IT a).2.1 ≠ (T_IT b).2.1 := by decide +kernel
theorem t_IT_ok : ∀ k, k < 4 → parseFieldDescriptor (T_IT k).2.2.1 = some (t_IT k) := by decide +kernel
abbrev classes : List vw_C := [(R_LC, T_LC, 17), (R_MA, T_MA, 7), (R_CO, T_CO, 2), (R_PR, T_PR, 2), (R_LO, T_LO, 1), (R_SE, T_SE, 3), (R_GO, T_GO, 2), (R_RU, T_RU, 7), (R_MO, T_MO, 9), (R_AL, T_AL, 3), (R_IT, T_IT, 4)]
