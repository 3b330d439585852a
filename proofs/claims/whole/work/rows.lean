section
/-! General rows: places of words, an end by its name, a switch by its targets. -/
theorem goodIn_r {big : List Cond} (ws : List Cond) (ps : List Nat) (hp : ws = ps.filterMap (fun i => big[i]?)) (h : ws.all goodWord = true) : GoodIn big ws := by
  intro w hw
  have h1 := List.all_eq_true.mp h w hw
  rw [hp] at hw
  obtain ⟨i, -, hi⟩ := List.mem_filterMap.mp hw
  exact ⟨List.mem_of_getElem? hi, good_of_word h1⟩
section RY
variable {p : Program} {l : Launch} {e : Env} {R : Room} {s : State} {m : MethodId} {args : Array Value} {below : List Frame} {meth : Method} {c : Code} {H : Heap} {locs : List Loc} {cells slots : Nat} {Q : State → Prop}
theorem ry_abs {g : JFrame} (h : ∀ QQ : State → Prop, QQ = Q → W p l e R s m args below meth c H locs cells slots QQ g) : W p l e R s m args below meth c H locs cells slots Q g := h Q rfl
theorem ry_table {cc : ByteArray} {pc : Nat} {ls : Array Slot} {rest : List Value} (hexec : p.tables.exec = Jvm.exec) (hb : c.code = cc) {dflt lo hi : Int} {offs : Array Int} {len : Nat} {x : Int32} (hdg : decode cc pc = .ok (.tableswitch dflt lo hi offs, len)) (tg : List Nat)
    (h1 : tg.any (fun t => decide ((t : Int) = (pc : Int) + dflt)) = true) (h2 : offs.all (fun o => tg.any (fun t => decide ((t : Int) = (pc : Int) + o))) = true) (h3 : (offs.size : Int) = hi - lo + 1)
    (kk : ∀ t ∈ tg, W p l e R s m args below meth c H locs cells slots Q (F0 m t ls rest)) : W p l e R s m args below meth c H locs cells slots Q (F0 m pc ls (.int x :: rest)) := by
  by_cases h : x.toInt < lo ∨ hi < x.toInt
  · obtain ⟨t, ht, he⟩ := List.any_eq_true.mp h1
    exact lv_tableOut hexec hb hdg h (of_decide_eq_true he).symm (kk t ht)
  · have hlo : ¬ x.toInt < lo := fun q => h (Or.inl q)
    have hhi : ¬ hi < x.toInt := fun q => h (Or.inr q)
    have hi' : (x.toInt - lo).toNat < offs.size := by omega
    have h4 := Array.all_eq_true.mp h2 _ hi'
    obtain ⟨t, ht, he⟩ := List.any_eq_true.mp h4
    exact lv_tableIn hexec hb hdg hlo hhi (Array.getElem?_eq_getElem hi') (of_decide_eq_true he).symm (kk t ht)
end RY
section RL
variable {p : Program} {l : Launch} {e : Env} {R : Room} {s : State} {m : MethodId} {args : Array Value} {below : List Frame} {meth : Method} {c : Code} {H : Heap} {locs : List Loc} {cells slots : Nat} {Q : State → Prop}
theorem ry_offset (k dflt : Int) : ∀ ps : List (Int × Int), Op.lookupswitch.offset ps dflt k = dflt ∨ ∃ q ∈ ps, Op.lookupswitch.offset ps dflt k = q.2 := by
  intro ps
  induction ps with
  | nil => exact Or.inl rfl
  | cons q r ih =>
    obtain ⟨a, o⟩ := q
    rw [Op.lookupswitch.offset_cons]
    by_cases h : a = k
    · rw [if_pos h]; exact Or.inr ⟨(a, o), List.mem_cons_self, rfl⟩
    · rw [if_neg h]
      rcases ih with ih | ⟨q, hq, he⟩
      · exact Or.inl ih
      · exact Or.inr ⟨q, List.mem_cons_of_mem _ hq, he⟩
theorem ry_lookup {cc : ByteArray} {pc : Nat} {ls : Array Slot} {rest : List Value} (hexec : p.tables.exec = Jvm.exec) (hb : c.code = cc) {dflt : Int} {ps : Array (Int × Int)} {len : Nat} {x : Int32} (hdg : decode cc pc = .ok (.lookupswitch dflt ps, len)) (hp : (ps.toList.zip (ps.toList.drop 1)).all (fun (a, next) => a.1 < next.1) = true) (tg : List Nat)
    (h1 : tg.any (fun t => decide ((t : Int) = (pc : Int) + dflt)) = true) (h2 : ps.toList.all (fun o => tg.any (fun t => decide ((t : Int) = (pc : Int) + o.2))) = true)
    (kk : ∀ t ∈ tg, W p l e R s m args below meth c H locs cells slots Q (F0 m t ls rest)) : W p l e R s m args below meth c H locs cells slots Q (F0 m pc ls (.int x :: rest)) := by
  rcases ry_offset x.toInt dflt ps.toList with h | ⟨q, hq, h⟩
  · obtain ⟨t, ht, he⟩ := List.any_eq_true.mp h1
    exact lv_lookup hexec hb hdg hp h (of_decide_eq_true he).symm (kk t ht)
  · obtain ⟨t, ht, he⟩ := List.any_eq_true.mp (List.all_eq_true.mp h2 q hq)
    exact lv_lookup hexec hb hdg hp h (of_decide_eq_true he).symm (kk t ht)
end RL
end
section
abbrev RC (C : String) : String := C
def R_LC : String := "Leastcode"
def T_LC : u_T := fun k => match k with
  | 0 => ("Leastcode", "machine", "LLeastcode$Machine;", true)
  | 1 => ("Leastcode", "prices", "LLeastcode$Prices;", true)
  | 2 => ("Leastcode", "lots", "LLeastcode$Lots;", true)
  | 3 => ("Leastcode", "search", "LLeastcode$Search;", true)
  | 4 => ("Leastcode", "programs", "[LLeastcode$Code;", true)
  | 5 => ("Leastcode", "programCount", "I", false)
  | 6 => ("Leastcode", "goals", "[LLeastcode$Goal;", true)
  | 7 => ("Leastcode", "goalCount", "I", false)
  | 8 => ("Leastcode", "rules", "[LLeastcode$Rule;", true)
  | 9 => ("Leastcode", "ruleCount", "I", false)
  | 10 => ("Leastcode", "killed", "[I", true)
  | 11 => ("Leastcode", "unlikeUpTo", "[I", true)
  | 12 => ("Leastcode", "found", "LLeastcode$Code;", true)
  | 13 => ("Leastcode", "hasFound", "Z", false)
  | 14 => ("Leastcode", "draft", "LLeastcode$Code;", true)
  | 15 => ("Leastcode", "shorter", "LLeastcode$Code;", true)
  | _ => ("Leastcode", "windowGoal", "LLeastcode$Goal;", true)
def t_LC : Nat → FieldType := fun k => match k with
  | 0 => .object "Leastcode$Machine"
  | 1 => .object "Leastcode$Prices"
  | 2 => .object "Leastcode$Lots"
  | 3 => .object "Leastcode$Search"
  | 4 => .array (.object "Leastcode$Code")
  | 5 => .int
  | 6 => .array (.object "Leastcode$Goal")
  | 7 => .int
  | 8 => .array (.object "Leastcode$Rule")
  | 9 => .int
  | 10 => .array .int
  | 11 => .array .int
  | 12 => .object "Leastcode$Code"
  | 13 => .boolean
  | 14 => .object "Leastcode$Code"
  | 15 => .object "Leastcode$Code"
  | _ => .object "Leastcode$Goal"
theorem n_LC : ∀ a, a < 17 → ∀ b, b < 17 → a ≠ b → (T_LC a).2.1 ≠ (T_LC b).2.1 := by decide +kernel
theorem t_LC_ok : ∀ k, k < 17 → parseFieldDescriptor (T_LC k).2.2.1 = some (t_LC k) := by decide +kernel
def R_MA : String := "Leastcode$Machine"
def T_MA : u_T := fun k => match k with
  | 0 => ("Leastcode$Machine", "next", "[I", true)
  | 1 => ("Leastcode$Machine", "readParts", "[I", true)
  | 2 => ("Leastcode$Machine", "writtenParts", "[I", true)
  | 3 => ("Leastcode$Machine", "mirrors", "[I", true)
  | 4 => ("Leastcode$Machine", "toRegister0", "[J", true)
  | 5 => ("Leastcode$Machine", "toRegister1", "[J", true)
  | _ => ("Leastcode$Machine", "toFlag", "[J", true)
def t_MA : Nat → FieldType := fun k => match k with
  | 0 => .array .int
  | 1 => .array .int
  | 2 => .array .int
  | 3 => .array .int
  | 4 => .array .long
  | 5 => .array .long
  | _ => .array .long
theorem n_MA : ∀ a, a < 7 → ∀ b, b < 7 → a ≠ b → (T_MA a).2.1 ≠ (T_MA b).2.1 := by decide +kernel
theorem t_MA_ok : ∀ k, k < 7 → parseFieldDescriptor (T_MA k).2.2.1 = some (t_MA k) := by decide +kernel
def R_CO : String := "Leastcode$Code"
def T_CO : u_T := fun k => match k with
  | 0 => ("Leastcode$Code", "numbers", "[I", true)
  | _ => ("Leastcode$Code", "length", "I", false)
def t_CO : Nat → FieldType := fun k => match k with
  | 0 => .array .int
  | _ => .int
theorem n_CO : ∀ a, a < 2 → ∀ b, b < 2 → a ≠ b → (T_CO a).2.1 ≠ (T_CO b).2.1 := by decide +kernel
theorem t_CO_ok : ∀ k, k < 2 → parseFieldDescriptor (T_CO k).2.2.1 = some (t_CO k) := by decide +kernel
def R_PR : String := "Leastcode$Prices"
def T_PR : u_T := fun k => match k with
  | 0 => ("Leastcode$Prices", "byKind", "[I", true)
  | _ => ("Leastcode$Prices", "waitCost", "I", false)
def t_PR : Nat → FieldType := fun k => match k with
  | 0 => .array .int
  | _ => .int
theorem n_PR : ∀ a, a < 2 → ∀ b, b < 2 → a ≠ b → (T_PR a).2.1 ≠ (T_PR b).2.1 := by decide +kernel
theorem t_PR_ok : ∀ k, k < 2 → parseFieldDescriptor (T_PR k).2.2.1 = some (t_PR k) := by decide +kernel
def R_LO : String := "Leastcode$Lots"
def T_LO : u_T := fun k => match k with
  | _ => ("Leastcode$Lots", "z", "I", false)
def t_LO : Nat → FieldType := fun k => match k with
  | _ => .int
theorem n_LO : ∀ a, a < 1 → ∀ b, b < 1 → a ≠ b → (T_LO a).2.1 ≠ (T_LO b).2.1 := by decide +kernel
theorem t_LO_ok : ∀ k, k < 1 → parseFieldDescriptor (T_LO k).2.2.1 = some (t_LO k) := by decide +kernel
def R_SE : String := "Leastcode$Search"
def T_SE : u_T := fun k => match k with
  | 0 => ("Leastcode$Search", "machine", "LLeastcode$Machine;", true)
  | 1 => ("Leastcode$Search", "ahead", "LLeastcode$Code;", true)
  | _ => ("Leastcode$Search", "refusing", "I", false)
def t_SE : Nat → FieldType := fun k => match k with
  | 0 => .object "Leastcode$Machine"
  | 1 => .object "Leastcode$Code"
  | _ => .int
theorem n_SE : ∀ a, a < 3 → ∀ b, b < 3 → a ≠ b → (T_SE a).2.1 ≠ (T_SE b).2.1 := by decide +kernel
theorem t_SE_ok : ∀ k, k < 3 → parseFieldDescriptor (T_SE k).2.2.1 = some (t_SE k) := by decide +kernel
def R_GO : String := "Leastcode$Goal"
def T_GO : u_T := fun k => match k with
  | 0 => ("Leastcode$Goal", "wanted", "[I", true)
  | _ => ("Leastcode$Goal", "liveParts", "I", false)
def t_GO : Nat → FieldType := fun k => match k with
  | 0 => .array .int
  | _ => .int
theorem n_GO : ∀ a, a < 2 → ∀ b, b < 2 → a ≠ b → (T_GO a).2.1 ≠ (T_GO b).2.1 := by decide +kernel
theorem t_GO_ok : ∀ k, k < 2 → parseFieldDescriptor (T_GO k).2.2.1 = some (t_GO k) := by decide +kernel
def R_RU : String := "Leastcode$Rule"
def T_RU : u_T := fun k => match k with
  | 0 => ("Leastcode$Rule", "left", "LLeastcode$Code;", true)
  | 1 => ("Leastcode$Rule", "right", "LLeastcode$Code;", true)
  | 2 => ("Leastcode$Rule", "mirroredLeft", "LLeastcode$Code;", true)
  | 3 => ("Leastcode$Rule", "mirroredRight", "LLeastcode$Code;", true)
  | 4 => ("Leastcode$Rule", "kept", "I", false)
  | 5 => ("Leastcode$Rule", "mirroredKept", "I", false)
  | _ => ("Leastcode$Rule", "taken", "I", false)
def t_RU : Nat → FieldType := fun k => match k with
  | 0 => .object "Leastcode$Code"
  | 1 => .object "Leastcode$Code"
  | 2 => .object "Leastcode$Code"
  | 3 => .object "Leastcode$Code"
  | 4 => .int
  | 5 => .int
  | _ => .int
theorem n_RU : ∀ a, a < 7 → ∀ b, b < 7 → a ≠ b → (T_RU a).2.1 ≠ (T_RU b).2.1 := by decide +kernel
theorem t_RU_ok : ∀ k, k < 7 → parseFieldDescriptor (T_RU k).2.2.1 = some (t_RU k) := by decide +kernel
def R_MO : String := "LeastcodeModel"
def T_MO : u_T := fun k => match k with
  | 0 => ("LeastcodeModel", "programs", "Ljava/util/ArrayList;", true)
  | 1 => ("LeastcodeModel", "goals", "Ljava/util/ArrayList;", true)
  | 2 => ("LeastcodeModel", "rules", "Ljava/util/ArrayList;", true)
  | 3 => ("LeastcodeModel", "prices", "[I", true)
  | 4 => ("LeastcodeModel", "kills", "[I", true)
  | 5 => ("LeastcodeModel", "found", "Ljava/util/List;", false)
  | 6 => ("LeastcodeModel", "wait", "I", false)
  | 7 => ("LeastcodeModel", "thrown", "I", false)
  | _ => ("LeastcodeModel", "z", "J", false)
def t_MO : Nat → FieldType := fun k => match k with
  | 0 => .object "java/util/ArrayList"
  | 1 => .object "java/util/ArrayList"
  | 2 => .object "java/util/ArrayList"
  | 3 => .array .int
  | 4 => .array .int
  | 5 => .object "java/util/List"
  | 6 => .int
  | 7 => .int
  | _ => .long
theorem n_MO : ∀ a, a < 9 → ∀ b, b < 9 → a ≠ b → (T_MO a).2.1 ≠ (T_MO b).2.1 := by decide +kernel
theorem t_MO_ok : ∀ k, k < 9 → parseFieldDescriptor (T_MO k).2.2.1 = some (t_MO k) := by decide +kernel
def R_AL : String := "java/util/ArrayList"
def T_AL : u_T := fun k => match k with
  | 0 => ("java/util/AbstractList", "modCount", "I", false)
  | 1 => ("java/util/ArrayList", "elementData", "[Ljava/lang/Object;", false)
  | _ => ("java/util/ArrayList", "size", "I", false)
def t_AL : Nat → FieldType := fun k => match k with
  | 0 => .int
  | 1 => .array (.object "java/lang/Object")
  | _ => .int
theorem n_AL : ∀ a, a < 3 → ∀ b, b < 3 → a ≠ b → (T_AL a).2.1 ≠ (T_AL b).2.1 := by decide +kernel
theorem t_AL_ok : ∀ k, k < 3 → parseFieldDescriptor (T_AL k).2.2.1 = some (t_AL k) := by decide +kernel
def R_IT : String := "java/util/ArrayList$Itr"
def T_IT : u_T := fun k => match k with
  | 0 => ("java/util/ArrayList$Itr", "cursor", "I", false)
  | 1 => ("java/util/ArrayList$Itr", "lastRet", "I", false)
  | 2 => ("java/util/ArrayList$Itr", "expectedModCount", "I", false)
  | _ => ("java/util/ArrayList$Itr", "this$0", "Ljava/util/ArrayList;", true)
def t_IT : Nat → FieldType := fun k => match k with
  | 0 => .int
  | 1 => .int
  | 2 => .int
  | _ => .object "java/util/ArrayList"
theorem n_IT : ∀ a, a < 4 → ∀ b, b < 4 → a ≠ b → (T_IT a).2.1 ≠ (T_IT b).2.1 := by decide +kernel
theorem t_IT_ok : ∀ k, k < 4 → parseFieldDescriptor (T_IT k).2.2.1 = some (t_IT k) := by decide +kernel
abbrev classes : List vw_C := [(R_LC, T_LC, 17), (R_MA, T_MA, 7), (R_CO, T_CO, 2), (R_PR, T_PR, 2), (R_LO, T_LO, 1), (R_SE, T_SE, 3), (R_GO, T_GO, 2), (R_RU, T_RU, 7), (R_MO, T_MO, 9), (R_AL, T_AL, 3), (R_IT, T_IT, 4)]
end
section
abbrev rm_kindOf : Room := { frames := 0, cells := 0, slots := 0, locals := 0 }
abbrev b_kindOf : ByteArray := prog_6_method_4_code
def y_kindOf : MethodName := ⟨"Leastcode$Machine", "kindOf", "(I)I"⟩
def w_kindOf : List Cond := [.code ⟨"Leastcode$Machine", "kindOf", "(I)I"⟩ prog_6_method_4_code 1 (some .int)]
theorem d_kindOf_0 : decode b_kindOf 0 = .ok (.iload_n 0, 1) := by decide +kernel
theorem d_kindOf_1 : decode b_kindOf 1 = .ok (.bipush 32, 2) := by decide +kernel
theorem d_kindOf_3 : decode b_kindOf 3 = .ok (.if_icmp .ge 7, 3) := by decide +kernel
theorem d_kindOf_6 : decode b_kindOf 6 = .ok (.iload_n 0, 1) := by decide +kernel
theorem d_kindOf_7 : decode b_kindOf 7 = .ok (.iconst 2, 1) := by decide +kernel
theorem d_kindOf_8 : decode b_kindOf 8 = .ok (.ishr, 1) := by decide +kernel
theorem d_kindOf_9 : decode b_kindOf 9 = .ok (.ireturn, 1) := by decide +kernel
theorem d_kindOf_10 : decode b_kindOf 10 = .ok (.bipush 8, 2) := by decide +kernel
theorem d_kindOf_12 : decode b_kindOf 12 = .ok (.iload_n 0, 1) := by decide +kernel
theorem d_kindOf_13 : decode b_kindOf 13 = .ok (.bipush 32, 2) := by decide +kernel
theorem d_kindOf_15 : decode b_kindOf 15 = .ok (.isub, 1) := by decide +kernel
theorem d_kindOf_16 : decode b_kindOf 16 = .ok (.iconst 1, 1) := by decide +kernel
theorem d_kindOf_17 : decode b_kindOf 17 = .ok (.ishr, 1) := by decide +kernel
theorem d_kindOf_18 : decode b_kindOf 18 = .ok (.iadd, 1) := by decide +kernel
theorem d_kindOf_19 : decode b_kindOf 19 = .ok (.ireturn, 1) := by decide +kernel
set_option maxHeartbeats 4000000 in
set_option maxRecDepth 100000 in
theorem c_kindOf (l : Launch) (x : Int32) : Met l y_kindOf w_kindOf rm_kindOf (va_Pc [.int x] (fun U => True)) (vp_Si (fun r => True)) 0 0 (fun _ => False) := by
  refine Met.ofW (cc := b_kindOf) (maxL := 1) (ret := (some .int)) (by decide) rfl ?_
  intro p e s m args below meth c s₁ B hml hv
  obtain ⟨rfl, -⟩ := hv
  have hx := B.exec
  have hb := B.bytes
  have hr := B.returns
  have hts := atoms_spec (ws := w_kindOf) B.pre
  have hown : s.vm.findClass "Leastcode$Machine" = some m.cls := findClass_of_methodNamed B.named
  have hlocks := B.notSynchronized
  have hl := lv_entry ([.int x]) (n := 1) (Nat.le_of_ble_eq_true rfl)
  rw [lg_entry_eq]
  generalize (lg_sl ([.int x]) ++ List.replicate (1 - (lg_sl ([.int x])).length) Slot.unset).toArray = ls at hl ⊢
  have hl : lv_has ls 1 [(0, .int x)] := hl
  refine lv_iload_n hx hb d_kindOf_0 rfl (lv_at hl 0 rfl) ?_
  refine lv_bipush (v := 32) hx hb d_kindOf_1 (by decide) ?_
  refine lv_icmp_ge (tgt := 10) hx hb d_kindOf_3 (by decide) (fun c_3 => ?_) (fun c_3 => ?_)
  · skip
    refine lv_bipush (v := 8) hx hb d_kindOf_10 (by decide) ?_
    refine lv_iload_n hx hb d_kindOf_12 rfl (lv_at hl 0 rfl) ?_
    refine lv_bipush (v := 32) hx hb d_kindOf_13 (by decide) ?_
    refine lv_isub hx hb d_kindOf_15 ?_
    refine lv_topi (fun x1 ex1 => ?_)
    refine lv_iconst (v := 1) hx hb d_kindOf_16 (by decide) ?_
    refine lv_ishr hx hb d_kindOf_17 ?_
    refine lv_topi (fun x2 ex2 => ?_)
    refine lv_iadd hx hb d_kindOf_18 ?_
    refine lv_topi (fun x3 ex3 => ?_)
    exact W.iret hx hb hr (fun t ht hW => ⟨_, rfl, trivial, ht⟩) (fun _ h => by cases h) d_kindOf_19
  · skip
    refine lv_iload_n hx hb d_kindOf_6 rfl (lv_at hl 0 rfl) ?_
    refine lv_iconst (v := 2) hx hb d_kindOf_7 (by decide) ?_
    refine lv_ishr hx hb d_kindOf_8 ?_
    refine lv_topi (fun x4 ex4 => ?_)
    exact W.iret hx hb hr (fun t ht hW => ⟨_, rfl, trivial, ht⟩) (fun _ h => by cases h) d_kindOf_9

abbrev rm_firstOf : Room := { frames := 0, cells := 0, slots := 0, locals := 0 }
abbrev b_firstOf : ByteArray := prog_6_method_5_code
def y_firstOf : MethodName := ⟨"Leastcode$Machine", "firstOf", "(I)I"⟩
def w_firstOf : List Cond := [.code ⟨"Leastcode$Machine", "firstOf", "(I)I"⟩ prog_6_method_5_code 1 (some .int)]
theorem d_firstOf_0 : decode b_firstOf 0 = .ok (.iload_n 0, 1) := by decide +kernel
theorem d_firstOf_1 : decode b_firstOf 1 = .ok (.bipush 32, 2) := by decide +kernel
theorem d_firstOf_3 : decode b_firstOf 3 = .ok (.if_icmp .ge 11, 3) := by decide +kernel
theorem d_firstOf_6 : decode b_firstOf 6 = .ok (.iload_n 0, 1) := by decide +kernel
theorem d_firstOf_7 : decode b_firstOf 7 = .ok (.iconst 1, 1) := by decide +kernel
theorem d_firstOf_8 : decode b_firstOf 8 = .ok (.ishr, 1) := by decide +kernel
theorem d_firstOf_9 : decode b_firstOf 9 = .ok (.iconst 1, 1) := by decide +kernel
theorem d_firstOf_10 : decode b_firstOf 10 = .ok (.iand, 1) := by decide +kernel
theorem d_firstOf_11 : decode b_firstOf 11 = .ok (.goto 6, 3) := by decide +kernel
theorem d_firstOf_14 : decode b_firstOf 14 = .ok (.iload_n 0, 1) := by decide +kernel
theorem d_firstOf_15 : decode b_firstOf 15 = .ok (.iconst 1, 1) := by decide +kernel
theorem d_firstOf_16 : decode b_firstOf 16 = .ok (.iand, 1) := by decide +kernel
theorem d_firstOf_17 : decode b_firstOf 17 = .ok (.ireturn, 1) := by decide +kernel
set_option maxHeartbeats 4000000 in
set_option maxRecDepth 100000 in
theorem c_firstOf (l : Launch) (x : Int32) : Met l y_firstOf w_firstOf rm_firstOf (va_Pc [.int x] (fun U => True)) (vp_Si (fun r => True)) 0 0 (fun _ => False) := by
  refine Met.ofW (cc := b_firstOf) (maxL := 1) (ret := (some .int)) (by decide) rfl ?_
  intro p e s m args below meth c s₁ B hml hv
  obtain ⟨rfl, -⟩ := hv
  have hx := B.exec
  have hb := B.bytes
  have hr := B.returns
  have hts := atoms_spec (ws := w_firstOf) B.pre
  have hown : s.vm.findClass "Leastcode$Machine" = some m.cls := findClass_of_methodNamed B.named
  have hlocks := B.notSynchronized
  have hl := lv_entry ([.int x]) (n := 1) (Nat.le_of_ble_eq_true rfl)
  rw [lg_entry_eq]
  generalize (lg_sl ([.int x]) ++ List.replicate (1 - (lg_sl ([.int x])).length) Slot.unset).toArray = ls at hl ⊢
  have hl : lv_has ls 1 [(0, .int x)] := hl
  refine lv_iload_n hx hb d_firstOf_0 rfl (lv_at hl 0 rfl) ?_
  refine lv_bipush (v := 32) hx hb d_firstOf_1 (by decide) ?_
  refine lv_icmp_ge (tgt := 14) hx hb d_firstOf_3 (by decide) (fun c_3 => ?_) (fun c_3 => ?_)
  · skip
    refine lv_iload_n hx hb d_firstOf_14 rfl (lv_at hl 0 rfl) ?_
    refine lv_iconst (v := 1) hx hb d_firstOf_15 (by decide) ?_
    refine lv_iand hx hb d_firstOf_16 ?_
    refine lv_topi (fun x1 ex1 => ?_)
    exact W.iret hx hb hr (fun t ht hW => ⟨_, rfl, trivial, ht⟩) (fun _ h => by cases h) d_firstOf_17
  · skip
    refine lv_iload_n hx hb d_firstOf_6 rfl (lv_at hl 0 rfl) ?_
    refine lv_iconst (v := 1) hx hb d_firstOf_7 (by decide) ?_
    refine lv_ishr hx hb d_firstOf_8 ?_
    refine lv_topi (fun x2 ex2 => ?_)
    refine lv_iconst (v := 1) hx hb d_firstOf_9 (by decide) ?_
    refine lv_iand hx hb d_firstOf_10 ?_
    refine lv_topi (fun x3 ex3 => ?_)
    refine lv_goto (tgt := 17) hx hb d_firstOf_11 (by decide) ?_
    exact W.iret hx hb hr (fun t ht hW => ⟨_, rfl, trivial, ht⟩) (fun _ h => by cases h) d_firstOf_17

abbrev rm_secondOf : Room := { frames := 0, cells := 0, slots := 0, locals := 0 }
abbrev b_secondOf : ByteArray := prog_6_method_6_code
def y_secondOf : MethodName := ⟨"Leastcode$Machine", "secondOf", "(I)I"⟩
def w_secondOf : List Cond := [.code ⟨"Leastcode$Machine", "secondOf", "(I)I"⟩ prog_6_method_6_code 1 (some .int)]
theorem d_secondOf_0 : decode b_secondOf 0 = .ok (.iload_n 0, 1) := by decide +kernel
theorem d_secondOf_1 : decode b_secondOf 1 = .ok (.iconst 1, 1) := by decide +kernel
theorem d_secondOf_2 : decode b_secondOf 2 = .ok (.iand, 1) := by decide +kernel
theorem d_secondOf_3 : decode b_secondOf 3 = .ok (.ireturn, 1) := by decide +kernel
set_option maxHeartbeats 4000000 in
set_option maxRecDepth 100000 in
theorem c_secondOf (l : Launch) (x : Int32) : Met l y_secondOf w_secondOf rm_secondOf (va_Pc [.int x] (fun U => True)) (vp_Si (fun r => True)) 0 0 (fun _ => False) := by
  refine Met.ofW (cc := b_secondOf) (maxL := 1) (ret := (some .int)) (by decide) rfl ?_
  intro p e s m args below meth c s₁ B hml hv
  obtain ⟨rfl, -⟩ := hv
  have hx := B.exec
  have hb := B.bytes
  have hr := B.returns
  have hts := atoms_spec (ws := w_secondOf) B.pre
  have hown : s.vm.findClass "Leastcode$Machine" = some m.cls := findClass_of_methodNamed B.named
  have hlocks := B.notSynchronized
  have hl := lv_entry ([.int x]) (n := 1) (Nat.le_of_ble_eq_true rfl)
  rw [lg_entry_eq]
  generalize (lg_sl ([.int x]) ++ List.replicate (1 - (lg_sl ([.int x])).length) Slot.unset).toArray = ls at hl ⊢
  have hl : lv_has ls 1 [(0, .int x)] := hl
  refine lv_iload_n hx hb d_secondOf_0 rfl (lv_at hl 0 rfl) ?_
  refine lv_iconst (v := 1) hx hb d_secondOf_1 (by decide) ?_
  refine lv_iand hx hb d_secondOf_2 ?_
  refine lv_topi (fun x1 ex1 => ?_)
  exact W.iret hx hb hr (fun t ht hW => ⟨_, rfl, trivial, ht⟩) (fun _ h => by cases h) d_secondOf_3

abbrev rm_register : Room := { frames := 0, cells := 0, slots := 0, locals := 0 }
abbrev b_register : ByteArray := prog_6_method_10_code
def y_register : MethodName := ⟨"Leastcode$Machine", "register", "(II)I"⟩
def w_register : List Cond := [.code ⟨"Leastcode$Machine", "register", "(II)I"⟩ prog_6_method_10_code 2 (some .int)]
theorem d_register_0 : decode b_register 0 = .ok (.iload_n 1, 1) := by decide +kernel
theorem d_register_1 : decode b_register 1 = .ok (.ifCond .ne 12, 3) := by decide +kernel
theorem d_register_4 : decode b_register 4 = .ok (.iload_n 0, 1) := by decide +kernel
theorem d_register_5 : decode b_register 5 = .ok (.iconst 4, 1) := by decide +kernel
theorem d_register_6 : decode b_register 6 = .ok (.ishr, 1) := by decide +kernel
theorem d_register_7 : decode b_register 7 = .ok (.bipush 7, 2) := by decide +kernel
theorem d_register_9 : decode b_register 9 = .ok (.iand, 1) := by decide +kernel
theorem d_register_10 : decode b_register 10 = .ok (.goto 9, 3) := by decide +kernel
theorem d_register_13 : decode b_register 13 = .ok (.iload_n 0, 1) := by decide +kernel
theorem d_register_14 : decode b_register 14 = .ok (.iconst 1, 1) := by decide +kernel
theorem d_register_15 : decode b_register 15 = .ok (.ishr, 1) := by decide +kernel
theorem d_register_16 : decode b_register 16 = .ok (.bipush 7, 2) := by decide +kernel
theorem d_register_18 : decode b_register 18 = .ok (.iand, 1) := by decide +kernel
theorem d_register_19 : decode b_register 19 = .ok (.ireturn, 1) := by decide +kernel
set_option maxHeartbeats 4000000 in
set_option maxRecDepth 100000 in
theorem c_register (l : Launch) (x : Int32) (y : Int32) : Met l y_register w_register rm_register (va_Pc [.int x, .int y] (fun U => True)) (vp_Si (fun r => ∃ j : Nat, j < 2 ^ 3 ∧ r = nI j)) 0 0 (fun _ => False) := by
  refine Met.ofW (cc := b_register) (maxL := 2) (ret := (some .int)) (by decide) rfl ?_
  intro p e s m args below meth c s₁ B hml hv
  obtain ⟨rfl, -⟩ := hv
  have hx := B.exec
  have hb := B.bytes
  have hr := B.returns
  have hts := atoms_spec (ws := w_register) B.pre
  have hown : s.vm.findClass "Leastcode$Machine" = some m.cls := findClass_of_methodNamed B.named
  have hlocks := B.notSynchronized
  have hl := lv_entry ([.int x, .int y]) (n := 2) (Nat.le_of_ble_eq_true rfl)
  rw [lg_entry_eq]
  generalize (lg_sl ([.int x, .int y]) ++ List.replicate (2 - (lg_sl ([.int x, .int y])).length) Slot.unset).toArray = ls at hl ⊢
  have hl : lv_has ls 2 [(0, .int x), (1, .int y)] := hl
  refine lv_iload_n hx hb d_register_0 rfl (lv_at hl 1 rfl) ?_
  refine lv_if_ne (tgt := 13) hx hb d_register_1 (by decide) (fun c_1 => ?_) (fun c_1 => ?_)
  · skip
    refine lv_iload_n hx hb d_register_13 rfl (lv_at hl 0 rfl) ?_
    refine lv_iconst (v := 1) hx hb d_register_14 (by decide) ?_
    refine lv_ishr hx hb d_register_15 ?_
    refine lv_topi (fun x1 ex1 => ?_)
    refine lv_bipush (v := 7) hx hb d_register_16 (by decide) ?_
    refine lv_iand hx hb d_register_18 ?_
    refine lv_topi (fun x2 ex2 => ?_)
    exact W.iret hx hb hr (fun t ht hW => ⟨_, rfl, by rw [ex2]; exact pk_andE _ 3 (by decide), ht⟩) (fun _ h => by cases h) d_register_19
  · skip
    refine lv_iload_n hx hb d_register_4 rfl (lv_at hl 0 rfl) ?_
    refine lv_iconst (v := 4) hx hb d_register_5 (by decide) ?_
    refine lv_ishr hx hb d_register_6 ?_
    refine lv_topi (fun x3 ex3 => ?_)
    refine lv_bipush (v := 7) hx hb d_register_7 (by decide) ?_
    refine lv_iand hx hb d_register_9 ?_
    refine lv_topi (fun x4 ex4 => ?_)
    refine lv_goto (tgt := 19) hx hb d_register_10 (by decide) ?_
    exact W.iret hx hb hr (fun t ht hW => ⟨_, rfl, by rw [ex4]; exact pk_andE _ 3 (by decide), ht⟩) (fun _ h => by cases h) d_register_19

abbrev rm_withRegister : Room := { frames := 0, cells := 0, slots := 0, locals := 0 }
abbrev b_withRegister : ByteArray := prog_6_method_11_code
def y_withRegister : MethodName := ⟨"Leastcode$Machine", "withRegister", "(III)I"⟩
def w_withRegister : List Cond := [.code ⟨"Leastcode$Machine", "withRegister", "(III)I"⟩ prog_6_method_11_code 3 (some .int)]
theorem d_withRegister_0 : decode b_withRegister 0 = .ok (.iload_n 1, 1) := by decide +kernel
theorem d_withRegister_1 : decode b_withRegister 1 = .ok (.ifCond .ne 17, 3) := by decide +kernel
theorem d_withRegister_4 : decode b_withRegister 4 = .ok (.iload_n 0, 1) := by decide +kernel
theorem d_withRegister_5 : decode b_withRegister 5 = .ok (.bipush 15, 2) := by decide +kernel
theorem d_withRegister_7 : decode b_withRegister 7 = .ok (.iand, 1) := by decide +kernel
theorem d_withRegister_8 : decode b_withRegister 8 = .ok (.iload_n 2, 1) := by decide +kernel
theorem d_withRegister_9 : decode b_withRegister 9 = .ok (.bipush 7, 2) := by decide +kernel
theorem d_withRegister_11 : decode b_withRegister 11 = .ok (.iand, 1) := by decide +kernel
theorem d_withRegister_12 : decode b_withRegister 12 = .ok (.iconst 4, 1) := by decide +kernel
theorem d_withRegister_13 : decode b_withRegister 13 = .ok (.ishl, 1) := by decide +kernel
theorem d_withRegister_14 : decode b_withRegister 14 = .ok (.ior, 1) := by decide +kernel
theorem d_withRegister_15 : decode b_withRegister 15 = .ok (.goto 14, 3) := by decide +kernel
theorem d_withRegister_18 : decode b_withRegister 18 = .ok (.iload_n 0, 1) := by decide +kernel
theorem d_withRegister_19 : decode b_withRegister 19 = .ok (.bipush 113, 2) := by decide +kernel
theorem d_withRegister_21 : decode b_withRegister 21 = .ok (.iand, 1) := by decide +kernel
theorem d_withRegister_22 : decode b_withRegister 22 = .ok (.iload_n 2, 1) := by decide +kernel
theorem d_withRegister_23 : decode b_withRegister 23 = .ok (.bipush 7, 2) := by decide +kernel
theorem d_withRegister_25 : decode b_withRegister 25 = .ok (.iand, 1) := by decide +kernel
theorem d_withRegister_26 : decode b_withRegister 26 = .ok (.iconst 1, 1) := by decide +kernel
theorem d_withRegister_27 : decode b_withRegister 27 = .ok (.ishl, 1) := by decide +kernel
theorem d_withRegister_28 : decode b_withRegister 28 = .ok (.ior, 1) := by decide +kernel
theorem d_withRegister_29 : decode b_withRegister 29 = .ok (.ireturn, 1) := by decide +kernel
set_option maxHeartbeats 4000000 in
set_option maxRecDepth 100000 in
theorem c_withRegister (l : Launch) (x : Int32) (y : Int32) (z : Int32) : Met l y_withRegister w_withRegister rm_withRegister (va_Pc [.int x, .int y, .int z] (fun U => True)) (vp_Si (fun r => True)) 0 0 (fun _ => False) := by
  refine Met.ofW (cc := b_withRegister) (maxL := 3) (ret := (some .int)) (by decide) rfl ?_
  intro p e s m args below meth c s₁ B hml hv
  obtain ⟨rfl, -⟩ := hv
  have hx := B.exec
  have hb := B.bytes
  have hr := B.returns
  have hts := atoms_spec (ws := w_withRegister) B.pre
  have hown : s.vm.findClass "Leastcode$Machine" = some m.cls := findClass_of_methodNamed B.named
  have hlocks := B.notSynchronized
  have hl := lv_entry ([.int x, .int y, .int z]) (n := 3) (Nat.le_of_ble_eq_true rfl)
  rw [lg_entry_eq]
  generalize (lg_sl ([.int x, .int y, .int z]) ++ List.replicate (3 - (lg_sl ([.int x, .int y, .int z])).length) Slot.unset).toArray = ls at hl ⊢
  have hl : lv_has ls 3 [(0, .int x), (1, .int y), (2, .int z)] := hl
  refine lv_iload_n hx hb d_withRegister_0 rfl (lv_at hl 1 rfl) ?_
  refine lv_if_ne (tgt := 18) hx hb d_withRegister_1 (by decide) (fun c_1 => ?_) (fun c_1 => ?_)
  · skip
    refine lv_iload_n hx hb d_withRegister_18 rfl (lv_at hl 0 rfl) ?_
    refine lv_bipush (v := 113) hx hb d_withRegister_19 (by decide) ?_
    refine lv_iand hx hb d_withRegister_21 ?_
    refine lv_topi (fun x1 ex1 => ?_)
    refine lv_iload_n hx hb d_withRegister_22 rfl (lv_at hl 2 rfl) ?_
    refine lv_bipush (v := 7) hx hb d_withRegister_23 (by decide) ?_
    refine lv_iand hx hb d_withRegister_25 ?_
    refine lv_topi (fun x2 ex2 => ?_)
    refine lv_iconst (v := 1) hx hb d_withRegister_26 (by decide) ?_
    refine lv_ishl hx hb d_withRegister_27 ?_
    refine lv_topi (fun x3 ex3 => ?_)
    refine lv_ior hx hb d_withRegister_28 ?_
    refine lv_topi (fun x4 ex4 => ?_)
    exact W.iret hx hb hr (fun t ht hW => ⟨_, rfl, trivial, ht⟩) (fun _ h => by cases h) d_withRegister_29
  · skip
    refine lv_iload_n hx hb d_withRegister_4 rfl (lv_at hl 0 rfl) ?_
    refine lv_bipush (v := 15) hx hb d_withRegister_5 (by decide) ?_
    refine lv_iand hx hb d_withRegister_7 ?_
    refine lv_topi (fun x5 ex5 => ?_)
    refine lv_iload_n hx hb d_withRegister_8 rfl (lv_at hl 2 rfl) ?_
    refine lv_bipush (v := 7) hx hb d_withRegister_9 (by decide) ?_
    refine lv_iand hx hb d_withRegister_11 ?_
    refine lv_topi (fun x6 ex6 => ?_)
    refine lv_iconst (v := 4) hx hb d_withRegister_12 (by decide) ?_
    refine lv_ishl hx hb d_withRegister_13 ?_
    refine lv_topi (fun x7 ex7 => ?_)
    refine lv_ior hx hb d_withRegister_14 ?_
    refine lv_topi (fun x8 ex8 => ?_)
    refine lv_goto (tgt := 29) hx hb d_withRegister_15 (by decide) ?_
    exact W.iret hx hb hr (fun t ht hW => ⟨_, rfl, trivial, ht⟩) (fun _ h => by cases h) d_withRegister_29

abbrev rm_withFlag : Room := { frames := 0, cells := 0, slots := 0, locals := 0 }
abbrev b_withFlag : ByteArray := prog_6_method_12_code
def y_withFlag : MethodName := ⟨"Leastcode$Machine", "withFlag", "(IZ)I"⟩
def w_withFlag : List Cond := [.code ⟨"Leastcode$Machine", "withFlag", "(IZ)I"⟩ prog_6_method_12_code 2 (some .int)]
theorem d_withFlag_0 : decode b_withFlag 0 = .ok (.iload_n 1, 1) := by decide +kernel
theorem d_withFlag_1 : decode b_withFlag 1 = .ok (.ifCond .eq 9, 3) := by decide +kernel
theorem d_withFlag_4 : decode b_withFlag 4 = .ok (.iload_n 0, 1) := by decide +kernel
theorem d_withFlag_5 : decode b_withFlag 5 = .ok (.iconst 1, 1) := by decide +kernel
theorem d_withFlag_6 : decode b_withFlag 6 = .ok (.ior, 1) := by decide +kernel
theorem d_withFlag_7 : decode b_withFlag 7 = .ok (.goto 7, 3) := by decide +kernel
theorem d_withFlag_10 : decode b_withFlag 10 = .ok (.iload_n 0, 1) := by decide +kernel
theorem d_withFlag_11 : decode b_withFlag 11 = .ok (.bipush 126, 2) := by decide +kernel
theorem d_withFlag_13 : decode b_withFlag 13 = .ok (.iand, 1) := by decide +kernel
theorem d_withFlag_14 : decode b_withFlag 14 = .ok (.ireturn, 1) := by decide +kernel
set_option maxHeartbeats 4000000 in
set_option maxRecDepth 100000 in
theorem c_withFlag (l : Launch) (x : Int32) (y : Int32) : Met l y_withFlag w_withFlag rm_withFlag (va_Pc [.int x, .int y] (fun U => True)) (vp_Si (fun r => True)) 0 0 (fun _ => False) := by
  refine Met.ofW (cc := b_withFlag) (maxL := 2) (ret := (some .int)) (by decide) rfl ?_
  intro p e s m args below meth c s₁ B hml hv
  obtain ⟨rfl, -⟩ := hv
  have hx := B.exec
  have hb := B.bytes
  have hr := B.returns
  have hts := atoms_spec (ws := w_withFlag) B.pre
  have hown : s.vm.findClass "Leastcode$Machine" = some m.cls := findClass_of_methodNamed B.named
  have hlocks := B.notSynchronized
  have hl := lv_entry ([.int x, .int y]) (n := 2) (Nat.le_of_ble_eq_true rfl)
  rw [lg_entry_eq]
  generalize (lg_sl ([.int x, .int y]) ++ List.replicate (2 - (lg_sl ([.int x, .int y])).length) Slot.unset).toArray = ls at hl ⊢
  have hl : lv_has ls 2 [(0, .int x), (1, .int y)] := hl
  refine lv_iload_n hx hb d_withFlag_0 rfl (lv_at hl 1 rfl) ?_
  refine lv_if_eq (tgt := 10) hx hb d_withFlag_1 (by decide) (fun c_1 => ?_) (fun c_1 => ?_)
  · skip
    refine lv_iload_n hx hb d_withFlag_10 rfl (lv_at hl 0 rfl) ?_
    refine lv_bipush (v := 126) hx hb d_withFlag_11 (by decide) ?_
    refine lv_iand hx hb d_withFlag_13 ?_
    refine lv_topi (fun x1 ex1 => ?_)
    exact W.iret hx hb hr (fun t ht hW => ⟨_, rfl, trivial, ht⟩) (fun _ h => by cases h) d_withFlag_14
  · skip
    refine lv_iload_n hx hb d_withFlag_4 rfl (lv_at hl 0 rfl) ?_
    refine lv_iconst (v := 1) hx hb d_withFlag_5 (by decide) ?_
    refine lv_ior hx hb d_withFlag_6 ?_
    refine lv_topi (fun x2 ex2 => ?_)
    refine lv_goto (tgt := 14) hx hb d_withFlag_7 (by decide) ?_
    exact W.iret hx hb hr (fun t ht hW => ⟨_, rfl, trivial, ht⟩) (fun _ h => by cases h) d_withFlag_14

abbrev rm_effect : Room := { frames := 1, cells := 0, slots := 0, locals := 22 }
abbrev b_effect : ByteArray := prog_6_method_9_code
def y_effect : MethodName := ⟨"Leastcode$Machine", "effect", "(CIII)I"⟩
def w_effect : List Cond := [.code ⟨"Leastcode$Machine", "effect", "(CIII)I"⟩ prog_6_method_9_code 7 (some .int), .methodLink "Leastcode$Machine" 63 ⟨"Leastcode$Machine", "register", "(II)I"⟩, .static ⟨"Leastcode$Machine", "register", "(II)I"⟩, .initialized "Leastcode$Machine", .code ⟨"Leastcode$Machine", "register", "(II)I"⟩ prog_6_method_10_code 2 (some .int), .methodLink "Leastcode$Machine" 78 ⟨"Leastcode$Machine", "withRegister", "(III)I"⟩, .static ⟨"Leastcode$Machine", "withRegister", "(III)I"⟩, .code ⟨"Leastcode$Machine", "withRegister", "(III)I"⟩ prog_6_method_11_code 3 (some .int), .methodLink "Leastcode$Machine" 81 ⟨"Leastcode$Machine", "withFlag", "(IZ)I"⟩, .static ⟨"Leastcode$Machine", "withFlag", "(IZ)I"⟩, .code ⟨"Leastcode$Machine", "withFlag", "(IZ)I"⟩ prog_6_method_12_code 2 (some .int)]
theorem d_effect_0 : decode b_effect 0 = .ok (.iload_n 3, 1) := by decide +kernel
theorem d_effect_1 : decode b_effect 1 = .ok (.iload_n 1, 1) := by decide +kernel
theorem d_effect_2 : decode b_effect 2 = .ok (.invokestatic 63, 3) := by decide +kernel
theorem d_effect_5 : decode b_effect 5 = .ok (.istore 4, 2) := by decide +kernel
theorem d_effect_7 : decode b_effect 7 = .ok (.iload_n 3, 1) := by decide +kernel
theorem d_effect_8 : decode b_effect 8 = .ok (.iload_n 2, 1) := by decide +kernel
theorem d_effect_9 : decode b_effect 9 = .ok (.invokestatic 63, 3) := by decide +kernel
theorem d_effect_12 : decode b_effect 12 = .ok (.istore 5, 2) := by decide +kernel
theorem d_effect_14 : decode b_effect 14 = .ok (.iload_n 3, 1) := by decide +kernel
theorem d_effect_15 : decode b_effect 15 = .ok (.iconst 1, 1) := by decide +kernel
theorem d_effect_16 : decode b_effect 16 = .ok (.iand, 1) := by decide +kernel
theorem d_effect_17 : decode b_effect 17 = .ok (.istore 6, 2) := by decide +kernel
theorem d_effect_19 : decode b_effect 19 = .ok (.iload_n 0, 1) := by decide +kernel
theorem d_effect_20 : decode b_effect 20 = .ok (.tableswitch 353 97 122 #[128, 342, 233, 261, 353, 353, 353, 353, 251, 353, 216, 271, 120, 183, 194, 353, 353, 298, 157, 324, 353, 353, 353, 205, 353, 335], 120) := by decide +kernel
theorem d_effect_140 : decode b_effect 140 = .ok (.iload_n 3, 1) := by decide +kernel
theorem d_effect_141 : decode b_effect 141 = .ok (.iload_n 1, 1) := by decide +kernel
theorem d_effect_142 : decode b_effect 142 = .ok (.iload 5, 2) := by decide +kernel
theorem d_effect_144 : decode b_effect 144 = .ok (.invokestatic 78, 3) := by decide +kernel
theorem d_effect_147 : decode b_effect 147 = .ok (.ireturn, 1) := by decide +kernel
theorem d_effect_148 : decode b_effect 148 = .ok (.iload_n 3, 1) := by decide +kernel
theorem d_effect_149 : decode b_effect 149 = .ok (.iload_n 1, 1) := by decide +kernel
theorem d_effect_150 : decode b_effect 150 = .ok (.iload 4, 2) := by decide +kernel
theorem d_effect_152 : decode b_effect 152 = .ok (.iload 5, 2) := by decide +kernel
theorem d_effect_154 : decode b_effect 154 = .ok (.iadd, 1) := by decide +kernel
theorem d_effect_155 : decode b_effect 155 = .ok (.invokestatic 78, 3) := by decide +kernel
theorem d_effect_158 : decode b_effect 158 = .ok (.iload 4, 2) := by decide +kernel
theorem d_effect_160 : decode b_effect 160 = .ok (.iload 5, 2) := by decide +kernel
theorem d_effect_162 : decode b_effect 162 = .ok (.iadd, 1) := by decide +kernel
theorem d_effect_163 : decode b_effect 163 = .ok (.bipush 7, 2) := by decide +kernel
theorem d_effect_165 : decode b_effect 165 = .ok (.if_icmp .le 7, 3) := by decide +kernel
theorem d_effect_168 : decode b_effect 168 = .ok (.iconst 1, 1) := by decide +kernel
theorem d_effect_169 : decode b_effect 169 = .ok (.goto 4, 3) := by decide +kernel
theorem d_effect_172 : decode b_effect 172 = .ok (.iconst 0, 1) := by decide +kernel
theorem d_effect_173 : decode b_effect 173 = .ok (.invokestatic 81, 3) := by decide +kernel
theorem d_effect_176 : decode b_effect 176 = .ok (.ireturn, 1) := by decide +kernel
theorem d_effect_177 : decode b_effect 177 = .ok (.iload_n 3, 1) := by decide +kernel
theorem d_effect_178 : decode b_effect 178 = .ok (.iload_n 1, 1) := by decide +kernel
theorem d_effect_179 : decode b_effect 179 = .ok (.iload 4, 2) := by decide +kernel
theorem d_effect_181 : decode b_effect 181 = .ok (.iload 5, 2) := by decide +kernel
theorem d_effect_183 : decode b_effect 183 = .ok (.isub, 1) := by decide +kernel
theorem d_effect_184 : decode b_effect 184 = .ok (.invokestatic 78, 3) := by decide +kernel
theorem d_effect_187 : decode b_effect 187 = .ok (.iload 4, 2) := by decide +kernel
theorem d_effect_189 : decode b_effect 189 = .ok (.iload 5, 2) := by decide +kernel
theorem d_effect_191 : decode b_effect 191 = .ok (.if_icmp .ge 7, 3) := by decide +kernel
theorem d_effect_194 : decode b_effect 194 = .ok (.iconst 1, 1) := by decide +kernel
theorem d_effect_195 : decode b_effect 195 = .ok (.goto 4, 3) := by decide +kernel
theorem d_effect_198 : decode b_effect 198 = .ok (.iconst 0, 1) := by decide +kernel
theorem d_effect_199 : decode b_effect 199 = .ok (.invokestatic 81, 3) := by decide +kernel
theorem d_effect_202 : decode b_effect 202 = .ok (.ireturn, 1) := by decide +kernel
theorem d_effect_203 : decode b_effect 203 = .ok (.iload_n 3, 1) := by decide +kernel
theorem d_effect_204 : decode b_effect 204 = .ok (.iload_n 1, 1) := by decide +kernel
theorem d_effect_205 : decode b_effect 205 = .ok (.iload 4, 2) := by decide +kernel
theorem d_effect_207 : decode b_effect 207 = .ok (.iload 5, 2) := by decide +kernel
theorem d_effect_209 : decode b_effect 209 = .ok (.iand, 1) := by decide +kernel
theorem d_effect_210 : decode b_effect 210 = .ok (.invokestatic 78, 3) := by decide +kernel
theorem d_effect_213 : decode b_effect 213 = .ok (.ireturn, 1) := by decide +kernel
theorem d_effect_214 : decode b_effect 214 = .ok (.iload_n 3, 1) := by decide +kernel
theorem d_effect_215 : decode b_effect 215 = .ok (.iload_n 1, 1) := by decide +kernel
theorem d_effect_216 : decode b_effect 216 = .ok (.iload 4, 2) := by decide +kernel
theorem d_effect_218 : decode b_effect 218 = .ok (.iload 5, 2) := by decide +kernel
theorem d_effect_220 : decode b_effect 220 = .ok (.ior, 1) := by decide +kernel
theorem d_effect_221 : decode b_effect 221 = .ok (.invokestatic 78, 3) := by decide +kernel
theorem d_effect_224 : decode b_effect 224 = .ok (.ireturn, 1) := by decide +kernel
theorem d_effect_225 : decode b_effect 225 = .ok (.iload_n 3, 1) := by decide +kernel
theorem d_effect_226 : decode b_effect 226 = .ok (.iload_n 1, 1) := by decide +kernel
theorem d_effect_227 : decode b_effect 227 = .ok (.iload 4, 2) := by decide +kernel
theorem d_effect_229 : decode b_effect 229 = .ok (.iload 5, 2) := by decide +kernel
theorem d_effect_231 : decode b_effect 231 = .ok (.ixor, 1) := by decide +kernel
theorem d_effect_232 : decode b_effect 232 = .ok (.invokestatic 78, 3) := by decide +kernel
theorem d_effect_235 : decode b_effect 235 = .ok (.ireturn, 1) := by decide +kernel
theorem d_effect_236 : decode b_effect 236 = .ok (.iload_n 3, 1) := by decide +kernel
theorem d_effect_237 : decode b_effect 237 = .ok (.iload 4, 2) := by decide +kernel
theorem d_effect_239 : decode b_effect 239 = .ok (.iload 5, 2) := by decide +kernel
theorem d_effect_241 : decode b_effect 241 = .ok (.if_icmp .ge 7, 3) := by decide +kernel
theorem d_effect_244 : decode b_effect 244 = .ok (.iconst 1, 1) := by decide +kernel
theorem d_effect_245 : decode b_effect 245 = .ok (.goto 4, 3) := by decide +kernel
theorem d_effect_248 : decode b_effect 248 = .ok (.iconst 0, 1) := by decide +kernel
theorem d_effect_249 : decode b_effect 249 = .ok (.invokestatic 81, 3) := by decide +kernel
theorem d_effect_252 : decode b_effect 252 = .ok (.ireturn, 1) := by decide +kernel
theorem d_effect_253 : decode b_effect 253 = .ok (.iload 6, 2) := by decide +kernel
theorem d_effect_255 : decode b_effect 255 = .ok (.iconst 1, 1) := by decide +kernel
theorem d_effect_256 : decode b_effect 256 = .ok (.if_icmp .ne 13, 3) := by decide +kernel
theorem d_effect_259 : decode b_effect 259 = .ok (.iload_n 3, 1) := by decide +kernel
theorem d_effect_260 : decode b_effect 260 = .ok (.iload_n 1, 1) := by decide +kernel
theorem d_effect_261 : decode b_effect 261 = .ok (.iload 5, 2) := by decide +kernel
theorem d_effect_263 : decode b_effect 263 = .ok (.invokestatic 78, 3) := by decide +kernel
theorem d_effect_266 : decode b_effect 266 = .ok (.goto 4, 3) := by decide +kernel
theorem d_effect_269 : decode b_effect 269 = .ok (.iload_n 3, 1) := by decide +kernel
theorem d_effect_270 : decode b_effect 270 = .ok (.ireturn, 1) := by decide +kernel
theorem d_effect_271 : decode b_effect 271 = .ok (.iload_n 3, 1) := by decide +kernel
theorem d_effect_272 : decode b_effect 272 = .ok (.iload_n 1, 1) := by decide +kernel
theorem d_effect_273 : decode b_effect 273 = .ok (.iload 4, 2) := by decide +kernel
theorem d_effect_275 : decode b_effect 275 = .ok (.iconst 1, 1) := by decide +kernel
theorem d_effect_276 : decode b_effect 276 = .ok (.iadd, 1) := by decide +kernel
theorem d_effect_277 : decode b_effect 277 = .ok (.invokestatic 78, 3) := by decide +kernel
theorem d_effect_280 : decode b_effect 280 = .ok (.ireturn, 1) := by decide +kernel
theorem d_effect_281 : decode b_effect 281 = .ok (.iload_n 3, 1) := by decide +kernel
theorem d_effect_282 : decode b_effect 282 = .ok (.iload_n 1, 1) := by decide +kernel
theorem d_effect_283 : decode b_effect 283 = .ok (.iload 4, 2) := by decide +kernel
theorem d_effect_285 : decode b_effect 285 = .ok (.iconst 1, 1) := by decide +kernel
theorem d_effect_286 : decode b_effect 286 = .ok (.isub, 1) := by decide +kernel
theorem d_effect_287 : decode b_effect 287 = .ok (.invokestatic 78, 3) := by decide +kernel
theorem d_effect_290 : decode b_effect 290 = .ok (.ireturn, 1) := by decide +kernel
theorem d_effect_291 : decode b_effect 291 = .ok (.iload_n 3, 1) := by decide +kernel
theorem d_effect_292 : decode b_effect 292 = .ok (.iload_n 1, 1) := by decide +kernel
theorem d_effect_293 : decode b_effect 293 = .ok (.iconst 2, 1) := by decide +kernel
theorem d_effect_294 : decode b_effect 294 = .ok (.iload 4, 2) := by decide +kernel
theorem d_effect_296 : decode b_effect 296 = .ok (.imul, 1) := by decide +kernel
theorem d_effect_297 : decode b_effect 297 = .ok (.invokestatic 78, 3) := by decide +kernel
theorem d_effect_300 : decode b_effect 300 = .ok (.iconst 2, 1) := by decide +kernel
theorem d_effect_301 : decode b_effect 301 = .ok (.iload 4, 2) := by decide +kernel
theorem d_effect_303 : decode b_effect 303 = .ok (.imul, 1) := by decide +kernel
theorem d_effect_304 : decode b_effect 304 = .ok (.bipush 7, 2) := by decide +kernel
theorem d_effect_306 : decode b_effect 306 = .ok (.if_icmp .le 7, 3) := by decide +kernel
theorem d_effect_309 : decode b_effect 309 = .ok (.iconst 1, 1) := by decide +kernel
theorem d_effect_310 : decode b_effect 310 = .ok (.goto 4, 3) := by decide +kernel
theorem d_effect_313 : decode b_effect 313 = .ok (.iconst 0, 1) := by decide +kernel
theorem d_effect_314 : decode b_effect 314 = .ok (.invokestatic 81, 3) := by decide +kernel
theorem d_effect_317 : decode b_effect 317 = .ok (.ireturn, 1) := by decide +kernel
theorem d_effect_318 : decode b_effect 318 = .ok (.iload_n 3, 1) := by decide +kernel
theorem d_effect_319 : decode b_effect 319 = .ok (.iload_n 1, 1) := by decide +kernel
theorem d_effect_320 : decode b_effect 320 = .ok (.iload 4, 2) := by decide +kernel
theorem d_effect_322 : decode b_effect 322 = .ok (.iconst 1, 1) := by decide +kernel
theorem d_effect_323 : decode b_effect 323 = .ok (.ishr, 1) := by decide +kernel
theorem d_effect_324 : decode b_effect 324 = .ok (.invokestatic 78, 3) := by decide +kernel
theorem d_effect_327 : decode b_effect 327 = .ok (.iload 4, 2) := by decide +kernel
theorem d_effect_329 : decode b_effect 329 = .ok (.iconst 1, 1) := by decide +kernel
theorem d_effect_330 : decode b_effect 330 = .ok (.iand, 1) := by decide +kernel
theorem d_effect_331 : decode b_effect 331 = .ok (.iconst 1, 1) := by decide +kernel
theorem d_effect_332 : decode b_effect 332 = .ok (.if_icmp .ne 7, 3) := by decide +kernel
theorem d_effect_335 : decode b_effect 335 = .ok (.iconst 1, 1) := by decide +kernel
theorem d_effect_336 : decode b_effect 336 = .ok (.goto 4, 3) := by decide +kernel
theorem d_effect_339 : decode b_effect 339 = .ok (.iconst 0, 1) := by decide +kernel
theorem d_effect_340 : decode b_effect 340 = .ok (.invokestatic 81, 3) := by decide +kernel
theorem d_effect_343 : decode b_effect 343 = .ok (.ireturn, 1) := by decide +kernel
theorem d_effect_344 : decode b_effect 344 = .ok (.iload_n 3, 1) := by decide +kernel
theorem d_effect_345 : decode b_effect 345 = .ok (.iload_n 1, 1) := by decide +kernel
theorem d_effect_346 : decode b_effect 346 = .ok (.bipush 7, 2) := by decide +kernel
theorem d_effect_348 : decode b_effect 348 = .ok (.iload 4, 2) := by decide +kernel
theorem d_effect_350 : decode b_effect 350 = .ok (.isub, 1) := by decide +kernel
theorem d_effect_351 : decode b_effect 351 = .ok (.invokestatic 78, 3) := by decide +kernel
theorem d_effect_354 : decode b_effect 354 = .ok (.ireturn, 1) := by decide +kernel
theorem d_effect_355 : decode b_effect 355 = .ok (.iload_n 3, 1) := by decide +kernel
theorem d_effect_356 : decode b_effect 356 = .ok (.iload_n 1, 1) := by decide +kernel
theorem d_effect_357 : decode b_effect 357 = .ok (.iconst 0, 1) := by decide +kernel
theorem d_effect_358 : decode b_effect 358 = .ok (.invokestatic 78, 3) := by decide +kernel
theorem d_effect_361 : decode b_effect 361 = .ok (.ireturn, 1) := by decide +kernel
theorem d_effect_362 : decode b_effect 362 = .ok (.iload_n 3, 1) := by decide +kernel
theorem d_effect_363 : decode b_effect 363 = .ok (.iload_n 1, 1) := by decide +kernel
theorem d_effect_364 : decode b_effect 364 = .ok (.iload 4, 2) := by decide +kernel
theorem d_effect_366 : decode b_effect 366 = .ok (.iload 6, 2) := by decide +kernel
theorem d_effect_368 : decode b_effect 368 = .ok (.iadd, 1) := by decide +kernel
theorem d_effect_369 : decode b_effect 369 = .ok (.invokestatic 78, 3) := by decide +kernel
theorem d_effect_372 : decode b_effect 372 = .ok (.ireturn, 1) := by decide +kernel
theorem d_effect_373 : decode b_effect 373 = .ok (.iload_n 3, 1) := by decide +kernel
theorem d_effect_374 : decode b_effect 374 = .ok (.iload 6, 2) := by decide +kernel
theorem d_effect_376 : decode b_effect 376 = .ok (.ifCond .ne 7, 3) := by decide +kernel
theorem d_effect_379 : decode b_effect 379 = .ok (.iconst 1, 1) := by decide +kernel
theorem d_effect_380 : decode b_effect 380 = .ok (.goto 4, 3) := by decide +kernel
theorem d_effect_383 : decode b_effect 383 = .ok (.iconst 0, 1) := by decide +kernel
theorem d_effect_384 : decode b_effect 384 = .ok (.invokestatic 81, 3) := by decide +kernel
theorem d_effect_387 : decode b_effect 387 = .ok (.ireturn, 1) := by decide +kernel
set_option maxRecDepth 20000 in
theorem g_effect_2 : GoodIn w_effect (wsS "Leastcode$Machine" 63 ⟨"Leastcode$Machine", "register", "(II)I"⟩ w_register) := goodIn_r _ [1, 2, 3, 4] rfl (by decide +kernel)
set_option maxRecDepth 20000 in
theorem g_effect_9 : GoodIn w_effect (wsS "Leastcode$Machine" 63 ⟨"Leastcode$Machine", "register", "(II)I"⟩ w_register) := goodIn_r _ [1, 2, 3, 4] rfl (by decide +kernel)
set_option maxRecDepth 20000 in
theorem g_effect_144 : GoodIn w_effect (wsS "Leastcode$Machine" 78 ⟨"Leastcode$Machine", "withRegister", "(III)I"⟩ w_withRegister) := goodIn_r _ [5, 6, 3, 7] rfl (by decide +kernel)
set_option maxRecDepth 20000 in
theorem g_effect_155 : GoodIn w_effect (wsS "Leastcode$Machine" 78 ⟨"Leastcode$Machine", "withRegister", "(III)I"⟩ w_withRegister) := goodIn_r _ [5, 6, 3, 7] rfl (by decide +kernel)
set_option maxRecDepth 20000 in
theorem g_effect_173 : GoodIn w_effect (wsS "Leastcode$Machine" 81 ⟨"Leastcode$Machine", "withFlag", "(IZ)I"⟩ w_withFlag) := goodIn_r _ [8, 9, 3, 10] rfl (by decide +kernel)
set_option maxRecDepth 20000 in
theorem g_effect_184 : GoodIn w_effect (wsS "Leastcode$Machine" 78 ⟨"Leastcode$Machine", "withRegister", "(III)I"⟩ w_withRegister) := goodIn_r _ [5, 6, 3, 7] rfl (by decide +kernel)
set_option maxRecDepth 20000 in
theorem g_effect_199 : GoodIn w_effect (wsS "Leastcode$Machine" 81 ⟨"Leastcode$Machine", "withFlag", "(IZ)I"⟩ w_withFlag) := goodIn_r _ [8, 9, 3, 10] rfl (by decide +kernel)
set_option maxRecDepth 20000 in
theorem g_effect_210 : GoodIn w_effect (wsS "Leastcode$Machine" 78 ⟨"Leastcode$Machine", "withRegister", "(III)I"⟩ w_withRegister) := goodIn_r _ [5, 6, 3, 7] rfl (by decide +kernel)
set_option maxRecDepth 20000 in
theorem g_effect_221 : GoodIn w_effect (wsS "Leastcode$Machine" 78 ⟨"Leastcode$Machine", "withRegister", "(III)I"⟩ w_withRegister) := goodIn_r _ [5, 6, 3, 7] rfl (by decide +kernel)
set_option maxRecDepth 20000 in
theorem g_effect_232 : GoodIn w_effect (wsS "Leastcode$Machine" 78 ⟨"Leastcode$Machine", "withRegister", "(III)I"⟩ w_withRegister) := goodIn_r _ [5, 6, 3, 7] rfl (by decide +kernel)
set_option maxRecDepth 20000 in
theorem g_effect_249 : GoodIn w_effect (wsS "Leastcode$Machine" 81 ⟨"Leastcode$Machine", "withFlag", "(IZ)I"⟩ w_withFlag) := goodIn_r _ [8, 9, 3, 10] rfl (by decide +kernel)
set_option maxRecDepth 20000 in
theorem g_effect_263 : GoodIn w_effect (wsS "Leastcode$Machine" 78 ⟨"Leastcode$Machine", "withRegister", "(III)I"⟩ w_withRegister) := goodIn_r _ [5, 6, 3, 7] rfl (by decide +kernel)
set_option maxRecDepth 20000 in
theorem g_effect_277 : GoodIn w_effect (wsS "Leastcode$Machine" 78 ⟨"Leastcode$Machine", "withRegister", "(III)I"⟩ w_withRegister) := goodIn_r _ [5, 6, 3, 7] rfl (by decide +kernel)
set_option maxRecDepth 20000 in
theorem g_effect_287 : GoodIn w_effect (wsS "Leastcode$Machine" 78 ⟨"Leastcode$Machine", "withRegister", "(III)I"⟩ w_withRegister) := goodIn_r _ [5, 6, 3, 7] rfl (by decide +kernel)
set_option maxRecDepth 20000 in
theorem g_effect_297 : GoodIn w_effect (wsS "Leastcode$Machine" 78 ⟨"Leastcode$Machine", "withRegister", "(III)I"⟩ w_withRegister) := goodIn_r _ [5, 6, 3, 7] rfl (by decide +kernel)
set_option maxRecDepth 20000 in
theorem g_effect_314 : GoodIn w_effect (wsS "Leastcode$Machine" 81 ⟨"Leastcode$Machine", "withFlag", "(IZ)I"⟩ w_withFlag) := goodIn_r _ [8, 9, 3, 10] rfl (by decide +kernel)
set_option maxRecDepth 20000 in
theorem g_effect_324 : GoodIn w_effect (wsS "Leastcode$Machine" 78 ⟨"Leastcode$Machine", "withRegister", "(III)I"⟩ w_withRegister) := goodIn_r _ [5, 6, 3, 7] rfl (by decide +kernel)
set_option maxRecDepth 20000 in
theorem g_effect_340 : GoodIn w_effect (wsS "Leastcode$Machine" 81 ⟨"Leastcode$Machine", "withFlag", "(IZ)I"⟩ w_withFlag) := goodIn_r _ [8, 9, 3, 10] rfl (by decide +kernel)
set_option maxRecDepth 20000 in
theorem g_effect_351 : GoodIn w_effect (wsS "Leastcode$Machine" 78 ⟨"Leastcode$Machine", "withRegister", "(III)I"⟩ w_withRegister) := goodIn_r _ [5, 6, 3, 7] rfl (by decide +kernel)
set_option maxRecDepth 20000 in
theorem g_effect_358 : GoodIn w_effect (wsS "Leastcode$Machine" 78 ⟨"Leastcode$Machine", "withRegister", "(III)I"⟩ w_withRegister) := goodIn_r _ [5, 6, 3, 7] rfl (by decide +kernel)
set_option maxRecDepth 20000 in
theorem g_effect_369 : GoodIn w_effect (wsS "Leastcode$Machine" 78 ⟨"Leastcode$Machine", "withRegister", "(III)I"⟩ w_withRegister) := goodIn_r _ [5, 6, 3, 7] rfl (by decide +kernel)
set_option maxRecDepth 20000 in
theorem g_effect_384 : GoodIn w_effect (wsS "Leastcode$Machine" 81 ⟨"Leastcode$Machine", "withFlag", "(IZ)I"⟩ w_withFlag) := goodIn_r _ [8, 9, 3, 10] rfl (by decide +kernel)
set_option maxHeartbeats 4000000 in
set_option maxRecDepth 100000 in
theorem c_effect (l : Launch) (x : Int32) (y : Int32) (z : Int32) (u : Int32) : Met l y_effect w_effect rm_effect (va_Pc [.int x, .int y, .int z, .int u] (fun U => True)) (vp_Si (fun r => True)) 0 0 (fun _ => False) := by
  refine Met.ofW (cc := b_effect) (maxL := 7) (ret := (some .int)) (by decide) rfl ?_
  intro p e s m args below meth c s₁ B hml hv
  obtain ⟨rfl, -⟩ := hv
  have hx := B.exec
  have hb := B.bytes
  have hr := B.returns
  have hts := atoms_spec (ws := w_effect) B.pre
  have hown : s.vm.findClass "Leastcode$Machine" = some m.cls := findClass_of_methodNamed B.named
  have hlocks := B.notSynchronized
  have hl := lv_entry ([.int x, .int y, .int z, .int u]) (n := 7) (Nat.le_of_ble_eq_true rfl)
  rw [lg_entry_eq]
  generalize (lg_sl ([.int x, .int y, .int z, .int u]) ++ List.replicate (7 - (lg_sl ([.int x, .int y, .int z, .int u])).length) Slot.unset).toArray = ls at hl ⊢
  have hl : lv_has ls 7 [(0, .int x), (1, .int y), (2, .int z), (3, .int u)] := hl
  refine lv_iload_n hx hb d_effect_0 rfl (lv_at hl 3 rfl) ?_
  refine lv_iload_n hx hb d_effect_1 rfl (lv_at hl 1 rfl) ?_
  refine vp_callSi (W.runS (As := [.int u, .int y]) (rest := []) ⟨hx, hb, hml, hown, hts⟩ (c_register l u y) (cwS 2 hts g_effect_2 rfl rfl rfl (by decide +kernel) ⟨Nat.le_of_ble_eq_true rfl, Nat.le_of_ble_eq_true rfl⟩) ⟨fun a U g mk z => z, fun U hU hW => ⟨rfl, trivial⟩⟩ rfl rfl hl.1 rfl (lv_room (Nat.le_of_ble_eq_true rfl)) d_effect_2 ⟨(Nat.le_of_ble_eq_true rfl), (Nat.le_of_ble_eq_true rfl)⟩) (fun r1 hr1 => ?_)
  refine lv_istore (lv' := [(4, .int r1), (0, .int x), (1, .int y), (2, .int z), (3, .int u)]) hx hb d_effect_5 hl (by decide) rfl (fun ls hl => ?_)
  refine lv_iload_n hx hb d_effect_7 rfl (lv_at hl 4 rfl) ?_
  refine lv_iload_n hx hb d_effect_8 rfl (lv_at hl 3 rfl) ?_
  refine vp_callSi (W.runS (As := [.int u, .int z]) (rest := []) ⟨hx, hb, hml, hown, hts⟩ (c_register l u z) (cwS 2 hts g_effect_9 rfl rfl rfl (by decide +kernel) ⟨Nat.le_of_ble_eq_true rfl, Nat.le_of_ble_eq_true rfl⟩) ⟨fun a U g mk z => z, fun U hU hW => ⟨rfl, trivial⟩⟩ rfl rfl hl.1 rfl (lv_room (Nat.le_of_ble_eq_true rfl)) d_effect_9 ⟨(Nat.le_of_ble_eq_true rfl), (Nat.le_of_ble_eq_true rfl)⟩) (fun r2 hr2 => ?_)
  refine lv_istore (lv' := [(5, .int r2), (4, .int r1), (0, .int x), (1, .int y), (2, .int z), (3, .int u)]) hx hb d_effect_12 hl (by decide) rfl (fun ls hl => ?_)
  refine lv_iload_n hx hb d_effect_14 rfl (lv_at hl 5 rfl) ?_
  refine lv_iconst (v := 1) hx hb d_effect_15 (by decide) ?_
  refine lv_iand hx hb d_effect_16 ?_
  refine lv_topi (fun x3 ex3 => ?_)
  refine lv_istore (lv' := [(6, .int x3), (5, .int r2), (4, .int r1), (0, .int x), (1, .int y), (2, .int z), (3, .int u)]) hx hb d_effect_17 hl (by decide) rfl (fun ls hl => ?_)
  refine lv_iload_n hx hb d_effect_19 rfl (lv_at hl 3 rfl) ?_
  refine ry_table hx hb d_effect_20 [140, 148, 177, 203, 214, 225, 236, 253, 271, 281, 291, 318, 344, 355, 362, 373] (by decide) (by decide +kernel) (by decide) (List.forall_mem_cons.mpr ⟨?_, (List.forall_mem_cons.mpr ⟨?_, (List.forall_mem_cons.mpr ⟨?_, (List.forall_mem_cons.mpr ⟨?_, (List.forall_mem_cons.mpr ⟨?_, (List.forall_mem_cons.mpr ⟨?_, (List.forall_mem_cons.mpr ⟨?_, (List.forall_mem_cons.mpr ⟨?_, (List.forall_mem_cons.mpr ⟨?_, (List.forall_mem_cons.mpr ⟨?_, (List.forall_mem_cons.mpr ⟨?_, (List.forall_mem_cons.mpr ⟨?_, (List.forall_mem_cons.mpr ⟨?_, (List.forall_mem_cons.mpr ⟨?_, (List.forall_mem_cons.mpr ⟨?_, (List.forall_mem_cons.mpr ⟨?_, fun _ h9 => absurd h9 List.not_mem_nil⟩)⟩)⟩)⟩)⟩)⟩)⟩)⟩)⟩)⟩)⟩)⟩)⟩)⟩)⟩)⟩)
  · skip
    refine lv_iload_n hx hb d_effect_140 rfl (lv_at hl 6 rfl) ?_
    refine lv_iload_n hx hb d_effect_141 rfl (lv_at hl 4 rfl) ?_
    refine lv_iload hx hb d_effect_142 (lv_at hl 1 rfl) ?_
    refine vp_callSi (W.runS (As := [.int u, .int y, .int r2]) (rest := []) ⟨hx, hb, hml, hown, hts⟩ (c_withRegister l u y r2) (cwS 3 hts g_effect_144 rfl rfl rfl (by decide +kernel) ⟨Nat.le_of_ble_eq_true rfl, Nat.le_of_ble_eq_true rfl⟩) ⟨fun a U g mk z => z, fun U hU hW => ⟨rfl, trivial⟩⟩ rfl rfl hl.1 rfl (lv_room (Nat.le_of_ble_eq_true rfl)) d_effect_144 ⟨(Nat.le_of_ble_eq_true rfl), (Nat.le_of_ble_eq_true rfl)⟩) (fun r4 hr4 => ?_)
    exact W.iret hx hb hr (fun t ht hW => ⟨_, rfl, trivial, ht⟩) (fun _ h => by cases h) d_effect_147
  · skip
    refine lv_iload_n hx hb d_effect_148 rfl (lv_at hl 6 rfl) ?_
    refine lv_iload_n hx hb d_effect_149 rfl (lv_at hl 4 rfl) ?_
    refine lv_iload hx hb d_effect_150 (lv_at hl 2 rfl) ?_
    refine lv_iload hx hb d_effect_152 (lv_at hl 1 rfl) ?_
    refine lv_iadd hx hb d_effect_154 ?_
    refine lv_topi (fun x5 ex5 => ?_)
    refine vp_callSi (W.runS (As := [.int u, .int y, .int x5]) (rest := []) ⟨hx, hb, hml, hown, hts⟩ (c_withRegister l u y x5) (cwS 3 hts g_effect_155 rfl rfl rfl (by decide +kernel) ⟨Nat.le_of_ble_eq_true rfl, Nat.le_of_ble_eq_true rfl⟩) ⟨fun a U g mk z => z, fun U hU hW => ⟨rfl, trivial⟩⟩ rfl rfl hl.1 rfl (lv_room (Nat.le_of_ble_eq_true rfl)) d_effect_155 ⟨(Nat.le_of_ble_eq_true rfl), (Nat.le_of_ble_eq_true rfl)⟩) (fun r6 hr6 => ?_)
    refine lv_iload hx hb d_effect_158 (lv_at hl 2 rfl) ?_
    refine lv_iload hx hb d_effect_160 (lv_at hl 1 rfl) ?_
    refine lv_iadd hx hb d_effect_162 ?_
    refine lv_topi (fun x7 ex7 => ?_)
    refine lv_bipush (v := 7) hx hb d_effect_163 (by decide) ?_
    refine lv_icmp_le (tgt := 172) hx hb d_effect_165 (by decide) (fun c_165 => ?_) (fun c_165 => ?_)
    · skip
      refine lv_iconst (v := 0) hx hb d_effect_172 (by decide) ?_
      refine vp_callSi (W.runS (As := [.int r6, .int 0]) (rest := []) ⟨hx, hb, hml, hown, hts⟩ (c_withFlag l r6 0) (cwS 2 hts g_effect_173 rfl rfl rfl (by decide +kernel) ⟨Nat.le_of_ble_eq_true rfl, Nat.le_of_ble_eq_true rfl⟩) ⟨fun a U g mk z => z, fun U hU hW => ⟨rfl, trivial⟩⟩ rfl rfl hl.1 rfl (lv_room (Nat.le_of_ble_eq_true rfl)) d_effect_173 ⟨(Nat.le_of_ble_eq_true rfl), (Nat.le_of_ble_eq_true rfl)⟩) (fun r8 hr8 => ?_)
      exact W.iret hx hb hr (fun t ht hW => ⟨_, rfl, trivial, ht⟩) (fun _ h => by cases h) d_effect_176
    · skip
      refine lv_iconst (v := 1) hx hb d_effect_168 (by decide) ?_
      refine lv_goto (tgt := 173) hx hb d_effect_169 (by decide) ?_
      refine vp_callSi (W.runS (As := [.int r6, .int 1]) (rest := []) ⟨hx, hb, hml, hown, hts⟩ (c_withFlag l r6 1) (cwS 2 hts g_effect_173 rfl rfl rfl (by decide +kernel) ⟨Nat.le_of_ble_eq_true rfl, Nat.le_of_ble_eq_true rfl⟩) ⟨fun a U g mk z => z, fun U hU hW => ⟨rfl, trivial⟩⟩ rfl rfl hl.1 rfl (lv_room (Nat.le_of_ble_eq_true rfl)) d_effect_173 ⟨(Nat.le_of_ble_eq_true rfl), (Nat.le_of_ble_eq_true rfl)⟩) (fun r9 hr9 => ?_)
      exact W.iret hx hb hr (fun t ht hW => ⟨_, rfl, trivial, ht⟩) (fun _ h => by cases h) d_effect_176
  · skip
    refine lv_iload_n hx hb d_effect_177 rfl (lv_at hl 6 rfl) ?_
    refine lv_iload_n hx hb d_effect_178 rfl (lv_at hl 4 rfl) ?_
    refine lv_iload hx hb d_effect_179 (lv_at hl 2 rfl) ?_
    refine lv_iload hx hb d_effect_181 (lv_at hl 1 rfl) ?_
    refine lv_isub hx hb d_effect_183 ?_
    refine lv_topi (fun x10 ex10 => ?_)
    refine vp_callSi (W.runS (As := [.int u, .int y, .int x10]) (rest := []) ⟨hx, hb, hml, hown, hts⟩ (c_withRegister l u y x10) (cwS 3 hts g_effect_184 rfl rfl rfl (by decide +kernel) ⟨Nat.le_of_ble_eq_true rfl, Nat.le_of_ble_eq_true rfl⟩) ⟨fun a U g mk z => z, fun U hU hW => ⟨rfl, trivial⟩⟩ rfl rfl hl.1 rfl (lv_room (Nat.le_of_ble_eq_true rfl)) d_effect_184 ⟨(Nat.le_of_ble_eq_true rfl), (Nat.le_of_ble_eq_true rfl)⟩) (fun r11 hr11 => ?_)
    refine lv_iload hx hb d_effect_187 (lv_at hl 2 rfl) ?_
    refine lv_iload hx hb d_effect_189 (lv_at hl 1 rfl) ?_
    refine lv_icmp_ge (tgt := 198) hx hb d_effect_191 (by decide) (fun c_191 => ?_) (fun c_191 => ?_)
    · skip
      refine lv_iconst (v := 0) hx hb d_effect_198 (by decide) ?_
      refine vp_callSi (W.runS (As := [.int r11, .int 0]) (rest := []) ⟨hx, hb, hml, hown, hts⟩ (c_withFlag l r11 0) (cwS 2 hts g_effect_199 rfl rfl rfl (by decide +kernel) ⟨Nat.le_of_ble_eq_true rfl, Nat.le_of_ble_eq_true rfl⟩) ⟨fun a U g mk z => z, fun U hU hW => ⟨rfl, trivial⟩⟩ rfl rfl hl.1 rfl (lv_room (Nat.le_of_ble_eq_true rfl)) d_effect_199 ⟨(Nat.le_of_ble_eq_true rfl), (Nat.le_of_ble_eq_true rfl)⟩) (fun r12 hr12 => ?_)
      exact W.iret hx hb hr (fun t ht hW => ⟨_, rfl, trivial, ht⟩) (fun _ h => by cases h) d_effect_202
    · skip
      refine lv_iconst (v := 1) hx hb d_effect_194 (by decide) ?_
      refine lv_goto (tgt := 199) hx hb d_effect_195 (by decide) ?_
      refine vp_callSi (W.runS (As := [.int r11, .int 1]) (rest := []) ⟨hx, hb, hml, hown, hts⟩ (c_withFlag l r11 1) (cwS 2 hts g_effect_199 rfl rfl rfl (by decide +kernel) ⟨Nat.le_of_ble_eq_true rfl, Nat.le_of_ble_eq_true rfl⟩) ⟨fun a U g mk z => z, fun U hU hW => ⟨rfl, trivial⟩⟩ rfl rfl hl.1 rfl (lv_room (Nat.le_of_ble_eq_true rfl)) d_effect_199 ⟨(Nat.le_of_ble_eq_true rfl), (Nat.le_of_ble_eq_true rfl)⟩) (fun r13 hr13 => ?_)
      exact W.iret hx hb hr (fun t ht hW => ⟨_, rfl, trivial, ht⟩) (fun _ h => by cases h) d_effect_202
  · skip
    refine lv_iload_n hx hb d_effect_203 rfl (lv_at hl 6 rfl) ?_
    refine lv_iload_n hx hb d_effect_204 rfl (lv_at hl 4 rfl) ?_
    refine lv_iload hx hb d_effect_205 (lv_at hl 2 rfl) ?_
    refine lv_iload hx hb d_effect_207 (lv_at hl 1 rfl) ?_
    refine lv_iand hx hb d_effect_209 ?_
    refine lv_topi (fun x14 ex14 => ?_)
    refine vp_callSi (W.runS (As := [.int u, .int y, .int x14]) (rest := []) ⟨hx, hb, hml, hown, hts⟩ (c_withRegister l u y x14) (cwS 3 hts g_effect_210 rfl rfl rfl (by decide +kernel) ⟨Nat.le_of_ble_eq_true rfl, Nat.le_of_ble_eq_true rfl⟩) ⟨fun a U g mk z => z, fun U hU hW => ⟨rfl, trivial⟩⟩ rfl rfl hl.1 rfl (lv_room (Nat.le_of_ble_eq_true rfl)) d_effect_210 ⟨(Nat.le_of_ble_eq_true rfl), (Nat.le_of_ble_eq_true rfl)⟩) (fun r15 hr15 => ?_)
    exact W.iret hx hb hr (fun t ht hW => ⟨_, rfl, trivial, ht⟩) (fun _ h => by cases h) d_effect_213
  · skip
    refine lv_iload_n hx hb d_effect_214 rfl (lv_at hl 6 rfl) ?_
    refine lv_iload_n hx hb d_effect_215 rfl (lv_at hl 4 rfl) ?_
    refine lv_iload hx hb d_effect_216 (lv_at hl 2 rfl) ?_
    refine lv_iload hx hb d_effect_218 (lv_at hl 1 rfl) ?_
    refine lv_ior hx hb d_effect_220 ?_
    refine lv_topi (fun x16 ex16 => ?_)
    refine vp_callSi (W.runS (As := [.int u, .int y, .int x16]) (rest := []) ⟨hx, hb, hml, hown, hts⟩ (c_withRegister l u y x16) (cwS 3 hts g_effect_221 rfl rfl rfl (by decide +kernel) ⟨Nat.le_of_ble_eq_true rfl, Nat.le_of_ble_eq_true rfl⟩) ⟨fun a U g mk z => z, fun U hU hW => ⟨rfl, trivial⟩⟩ rfl rfl hl.1 rfl (lv_room (Nat.le_of_ble_eq_true rfl)) d_effect_221 ⟨(Nat.le_of_ble_eq_true rfl), (Nat.le_of_ble_eq_true rfl)⟩) (fun r17 hr17 => ?_)
    exact W.iret hx hb hr (fun t ht hW => ⟨_, rfl, trivial, ht⟩) (fun _ h => by cases h) d_effect_224
  · skip
    refine lv_iload_n hx hb d_effect_225 rfl (lv_at hl 6 rfl) ?_
    refine lv_iload_n hx hb d_effect_226 rfl (lv_at hl 4 rfl) ?_
    refine lv_iload hx hb d_effect_227 (lv_at hl 2 rfl) ?_
    refine lv_iload hx hb d_effect_229 (lv_at hl 1 rfl) ?_
    refine lv_ixor hx hb d_effect_231 ?_
    refine lv_topi (fun x18 ex18 => ?_)
    refine vp_callSi (W.runS (As := [.int u, .int y, .int x18]) (rest := []) ⟨hx, hb, hml, hown, hts⟩ (c_withRegister l u y x18) (cwS 3 hts g_effect_232 rfl rfl rfl (by decide +kernel) ⟨Nat.le_of_ble_eq_true rfl, Nat.le_of_ble_eq_true rfl⟩) ⟨fun a U g mk z => z, fun U hU hW => ⟨rfl, trivial⟩⟩ rfl rfl hl.1 rfl (lv_room (Nat.le_of_ble_eq_true rfl)) d_effect_232 ⟨(Nat.le_of_ble_eq_true rfl), (Nat.le_of_ble_eq_true rfl)⟩) (fun r19 hr19 => ?_)
    exact W.iret hx hb hr (fun t ht hW => ⟨_, rfl, trivial, ht⟩) (fun _ h => by cases h) d_effect_235
  · skip
    refine lv_iload_n hx hb d_effect_236 rfl (lv_at hl 6 rfl) ?_
    refine lv_iload hx hb d_effect_237 (lv_at hl 2 rfl) ?_
    refine lv_iload hx hb d_effect_239 (lv_at hl 1 rfl) ?_
    refine lv_icmp_ge (tgt := 248) hx hb d_effect_241 (by decide) (fun c_241 => ?_) (fun c_241 => ?_)
    · skip
      refine lv_iconst (v := 0) hx hb d_effect_248 (by decide) ?_
      refine vp_callSi (W.runS (As := [.int u, .int 0]) (rest := []) ⟨hx, hb, hml, hown, hts⟩ (c_withFlag l u 0) (cwS 2 hts g_effect_249 rfl rfl rfl (by decide +kernel) ⟨Nat.le_of_ble_eq_true rfl, Nat.le_of_ble_eq_true rfl⟩) ⟨fun a U g mk z => z, fun U hU hW => ⟨rfl, trivial⟩⟩ rfl rfl hl.1 rfl (lv_room (Nat.le_of_ble_eq_true rfl)) d_effect_249 ⟨(Nat.le_of_ble_eq_true rfl), (Nat.le_of_ble_eq_true rfl)⟩) (fun r20 hr20 => ?_)
      exact W.iret hx hb hr (fun t ht hW => ⟨_, rfl, trivial, ht⟩) (fun _ h => by cases h) d_effect_252
    · skip
      refine lv_iconst (v := 1) hx hb d_effect_244 (by decide) ?_
      refine lv_goto (tgt := 249) hx hb d_effect_245 (by decide) ?_
      refine vp_callSi (W.runS (As := [.int u, .int 1]) (rest := []) ⟨hx, hb, hml, hown, hts⟩ (c_withFlag l u 1) (cwS 2 hts g_effect_249 rfl rfl rfl (by decide +kernel) ⟨Nat.le_of_ble_eq_true rfl, Nat.le_of_ble_eq_true rfl⟩) ⟨fun a U g mk z => z, fun U hU hW => ⟨rfl, trivial⟩⟩ rfl rfl hl.1 rfl (lv_room (Nat.le_of_ble_eq_true rfl)) d_effect_249 ⟨(Nat.le_of_ble_eq_true rfl), (Nat.le_of_ble_eq_true rfl)⟩) (fun r21 hr21 => ?_)
      exact W.iret hx hb hr (fun t ht hW => ⟨_, rfl, trivial, ht⟩) (fun _ h => by cases h) d_effect_252
  · skip
    refine lv_iload hx hb d_effect_253 (lv_at hl 0 rfl) ?_
    refine lv_iconst (v := 1) hx hb d_effect_255 (by decide) ?_
    refine lv_icmp_ne (tgt := 269) hx hb d_effect_256 (by decide) (fun c_256 => ?_) (fun c_256 => ?_)
    · skip
      refine lv_iload_n hx hb d_effect_269 rfl (lv_at hl 6 rfl) ?_
      exact W.iret hx hb hr (fun t ht hW => ⟨_, rfl, trivial, ht⟩) (fun _ h => by cases h) d_effect_270
    · skip
      refine lv_iload_n hx hb d_effect_259 rfl (lv_at hl 6 rfl) ?_
      refine lv_iload_n hx hb d_effect_260 rfl (lv_at hl 4 rfl) ?_
      refine lv_iload hx hb d_effect_261 (lv_at hl 1 rfl) ?_
      refine vp_callSi (W.runS (As := [.int u, .int y, .int r2]) (rest := []) ⟨hx, hb, hml, hown, hts⟩ (c_withRegister l u y r2) (cwS 3 hts g_effect_263 rfl rfl rfl (by decide +kernel) ⟨Nat.le_of_ble_eq_true rfl, Nat.le_of_ble_eq_true rfl⟩) ⟨fun a U g mk z => z, fun U hU hW => ⟨rfl, trivial⟩⟩ rfl rfl hl.1 rfl (lv_room (Nat.le_of_ble_eq_true rfl)) d_effect_263 ⟨(Nat.le_of_ble_eq_true rfl), (Nat.le_of_ble_eq_true rfl)⟩) (fun r22 hr22 => ?_)
      refine lv_goto (tgt := 270) hx hb d_effect_266 (by decide) ?_
      exact W.iret hx hb hr (fun t ht hW => ⟨_, rfl, trivial, ht⟩) (fun _ h => by cases h) d_effect_270
  · skip
    refine lv_iload_n hx hb d_effect_271 rfl (lv_at hl 6 rfl) ?_
    refine lv_iload_n hx hb d_effect_272 rfl (lv_at hl 4 rfl) ?_
    refine lv_iload hx hb d_effect_273 (lv_at hl 2 rfl) ?_
    refine lv_iconst (v := 1) hx hb d_effect_275 (by decide) ?_
    refine lv_iadd hx hb d_effect_276 ?_
    refine lv_topi (fun x23 ex23 => ?_)
    refine vp_callSi (W.runS (As := [.int u, .int y, .int x23]) (rest := []) ⟨hx, hb, hml, hown, hts⟩ (c_withRegister l u y x23) (cwS 3 hts g_effect_277 rfl rfl rfl (by decide +kernel) ⟨Nat.le_of_ble_eq_true rfl, Nat.le_of_ble_eq_true rfl⟩) ⟨fun a U g mk z => z, fun U hU hW => ⟨rfl, trivial⟩⟩ rfl rfl hl.1 rfl (lv_room (Nat.le_of_ble_eq_true rfl)) d_effect_277 ⟨(Nat.le_of_ble_eq_true rfl), (Nat.le_of_ble_eq_true rfl)⟩) (fun r24 hr24 => ?_)
    exact W.iret hx hb hr (fun t ht hW => ⟨_, rfl, trivial, ht⟩) (fun _ h => by cases h) d_effect_280
  · skip
    refine lv_iload_n hx hb d_effect_281 rfl (lv_at hl 6 rfl) ?_
    refine lv_iload_n hx hb d_effect_282 rfl (lv_at hl 4 rfl) ?_
    refine lv_iload hx hb d_effect_283 (lv_at hl 2 rfl) ?_
    refine lv_iconst (v := 1) hx hb d_effect_285 (by decide) ?_
    refine lv_isub hx hb d_effect_286 ?_
    refine lv_topi (fun x25 ex25 => ?_)
    refine vp_callSi (W.runS (As := [.int u, .int y, .int x25]) (rest := []) ⟨hx, hb, hml, hown, hts⟩ (c_withRegister l u y x25) (cwS 3 hts g_effect_287 rfl rfl rfl (by decide +kernel) ⟨Nat.le_of_ble_eq_true rfl, Nat.le_of_ble_eq_true rfl⟩) ⟨fun a U g mk z => z, fun U hU hW => ⟨rfl, trivial⟩⟩ rfl rfl hl.1 rfl (lv_room (Nat.le_of_ble_eq_true rfl)) d_effect_287 ⟨(Nat.le_of_ble_eq_true rfl), (Nat.le_of_ble_eq_true rfl)⟩) (fun r26 hr26 => ?_)
    exact W.iret hx hb hr (fun t ht hW => ⟨_, rfl, trivial, ht⟩) (fun _ h => by cases h) d_effect_290
  · skip
    refine lv_iload_n hx hb d_effect_291 rfl (lv_at hl 6 rfl) ?_
    refine lv_iload_n hx hb d_effect_292 rfl (lv_at hl 4 rfl) ?_
    refine lv_iconst (v := 2) hx hb d_effect_293 (by decide) ?_
    refine lv_iload hx hb d_effect_294 (lv_at hl 2 rfl) ?_
    refine lv_imul hx hb d_effect_296 ?_
    refine lv_topi (fun x27 ex27 => ?_)
    refine vp_callSi (W.runS (As := [.int u, .int y, .int x27]) (rest := []) ⟨hx, hb, hml, hown, hts⟩ (c_withRegister l u y x27) (cwS 3 hts g_effect_297 rfl rfl rfl (by decide +kernel) ⟨Nat.le_of_ble_eq_true rfl, Nat.le_of_ble_eq_true rfl⟩) ⟨fun a U g mk z => z, fun U hU hW => ⟨rfl, trivial⟩⟩ rfl rfl hl.1 rfl (lv_room (Nat.le_of_ble_eq_true rfl)) d_effect_297 ⟨(Nat.le_of_ble_eq_true rfl), (Nat.le_of_ble_eq_true rfl)⟩) (fun r28 hr28 => ?_)
    refine lv_iconst (v := 2) hx hb d_effect_300 (by decide) ?_
    refine lv_iload hx hb d_effect_301 (lv_at hl 2 rfl) ?_
    refine lv_imul hx hb d_effect_303 ?_
    refine lv_topi (fun x29 ex29 => ?_)
    refine lv_bipush (v := 7) hx hb d_effect_304 (by decide) ?_
    refine lv_icmp_le (tgt := 313) hx hb d_effect_306 (by decide) (fun c_306 => ?_) (fun c_306 => ?_)
    · skip
      refine lv_iconst (v := 0) hx hb d_effect_313 (by decide) ?_
      refine vp_callSi (W.runS (As := [.int r28, .int 0]) (rest := []) ⟨hx, hb, hml, hown, hts⟩ (c_withFlag l r28 0) (cwS 2 hts g_effect_314 rfl rfl rfl (by decide +kernel) ⟨Nat.le_of_ble_eq_true rfl, Nat.le_of_ble_eq_true rfl⟩) ⟨fun a U g mk z => z, fun U hU hW => ⟨rfl, trivial⟩⟩ rfl rfl hl.1 rfl (lv_room (Nat.le_of_ble_eq_true rfl)) d_effect_314 ⟨(Nat.le_of_ble_eq_true rfl), (Nat.le_of_ble_eq_true rfl)⟩) (fun r30 hr30 => ?_)
      exact W.iret hx hb hr (fun t ht hW => ⟨_, rfl, trivial, ht⟩) (fun _ h => by cases h) d_effect_317
    · skip
      refine lv_iconst (v := 1) hx hb d_effect_309 (by decide) ?_
      refine lv_goto (tgt := 314) hx hb d_effect_310 (by decide) ?_
      refine vp_callSi (W.runS (As := [.int r28, .int 1]) (rest := []) ⟨hx, hb, hml, hown, hts⟩ (c_withFlag l r28 1) (cwS 2 hts g_effect_314 rfl rfl rfl (by decide +kernel) ⟨Nat.le_of_ble_eq_true rfl, Nat.le_of_ble_eq_true rfl⟩) ⟨fun a U g mk z => z, fun U hU hW => ⟨rfl, trivial⟩⟩ rfl rfl hl.1 rfl (lv_room (Nat.le_of_ble_eq_true rfl)) d_effect_314 ⟨(Nat.le_of_ble_eq_true rfl), (Nat.le_of_ble_eq_true rfl)⟩) (fun r31 hr31 => ?_)
      exact W.iret hx hb hr (fun t ht hW => ⟨_, rfl, trivial, ht⟩) (fun _ h => by cases h) d_effect_317
  · skip
    refine lv_iload_n hx hb d_effect_318 rfl (lv_at hl 6 rfl) ?_
    refine lv_iload_n hx hb d_effect_319 rfl (lv_at hl 4 rfl) ?_
    refine lv_iload hx hb d_effect_320 (lv_at hl 2 rfl) ?_
    refine lv_iconst (v := 1) hx hb d_effect_322 (by decide) ?_
    refine lv_ishr hx hb d_effect_323 ?_
    refine lv_topi (fun x32 ex32 => ?_)
    refine vp_callSi (W.runS (As := [.int u, .int y, .int x32]) (rest := []) ⟨hx, hb, hml, hown, hts⟩ (c_withRegister l u y x32) (cwS 3 hts g_effect_324 rfl rfl rfl (by decide +kernel) ⟨Nat.le_of_ble_eq_true rfl, Nat.le_of_ble_eq_true rfl⟩) ⟨fun a U g mk z => z, fun U hU hW => ⟨rfl, trivial⟩⟩ rfl rfl hl.1 rfl (lv_room (Nat.le_of_ble_eq_true rfl)) d_effect_324 ⟨(Nat.le_of_ble_eq_true rfl), (Nat.le_of_ble_eq_true rfl)⟩) (fun r33 hr33 => ?_)
    refine lv_iload hx hb d_effect_327 (lv_at hl 2 rfl) ?_
    refine lv_iconst (v := 1) hx hb d_effect_329 (by decide) ?_
    refine lv_iand hx hb d_effect_330 ?_
    refine lv_topi (fun x34 ex34 => ?_)
    refine lv_iconst (v := 1) hx hb d_effect_331 (by decide) ?_
    refine lv_icmp_ne (tgt := 339) hx hb d_effect_332 (by decide) (fun c_332 => ?_) (fun c_332 => ?_)
    · skip
      refine lv_iconst (v := 0) hx hb d_effect_339 (by decide) ?_
      refine vp_callSi (W.runS (As := [.int r33, .int 0]) (rest := []) ⟨hx, hb, hml, hown, hts⟩ (c_withFlag l r33 0) (cwS 2 hts g_effect_340 rfl rfl rfl (by decide +kernel) ⟨Nat.le_of_ble_eq_true rfl, Nat.le_of_ble_eq_true rfl⟩) ⟨fun a U g mk z => z, fun U hU hW => ⟨rfl, trivial⟩⟩ rfl rfl hl.1 rfl (lv_room (Nat.le_of_ble_eq_true rfl)) d_effect_340 ⟨(Nat.le_of_ble_eq_true rfl), (Nat.le_of_ble_eq_true rfl)⟩) (fun r35 hr35 => ?_)
      exact W.iret hx hb hr (fun t ht hW => ⟨_, rfl, trivial, ht⟩) (fun _ h => by cases h) d_effect_343
    · skip
      refine lv_iconst (v := 1) hx hb d_effect_335 (by decide) ?_
      refine lv_goto (tgt := 340) hx hb d_effect_336 (by decide) ?_
      refine vp_callSi (W.runS (As := [.int r33, .int 1]) (rest := []) ⟨hx, hb, hml, hown, hts⟩ (c_withFlag l r33 1) (cwS 2 hts g_effect_340 rfl rfl rfl (by decide +kernel) ⟨Nat.le_of_ble_eq_true rfl, Nat.le_of_ble_eq_true rfl⟩) ⟨fun a U g mk z => z, fun U hU hW => ⟨rfl, trivial⟩⟩ rfl rfl hl.1 rfl (lv_room (Nat.le_of_ble_eq_true rfl)) d_effect_340 ⟨(Nat.le_of_ble_eq_true rfl), (Nat.le_of_ble_eq_true rfl)⟩) (fun r36 hr36 => ?_)
      exact W.iret hx hb hr (fun t ht hW => ⟨_, rfl, trivial, ht⟩) (fun _ h => by cases h) d_effect_343
  · skip
    refine lv_iload_n hx hb d_effect_344 rfl (lv_at hl 6 rfl) ?_
    refine lv_iload_n hx hb d_effect_345 rfl (lv_at hl 4 rfl) ?_
    refine lv_bipush (v := 7) hx hb d_effect_346 (by decide) ?_
    refine lv_iload hx hb d_effect_348 (lv_at hl 2 rfl) ?_
    refine lv_isub hx hb d_effect_350 ?_
    refine lv_topi (fun x37 ex37 => ?_)
    refine vp_callSi (W.runS (As := [.int u, .int y, .int x37]) (rest := []) ⟨hx, hb, hml, hown, hts⟩ (c_withRegister l u y x37) (cwS 3 hts g_effect_351 rfl rfl rfl (by decide +kernel) ⟨Nat.le_of_ble_eq_true rfl, Nat.le_of_ble_eq_true rfl⟩) ⟨fun a U g mk z => z, fun U hU hW => ⟨rfl, trivial⟩⟩ rfl rfl hl.1 rfl (lv_room (Nat.le_of_ble_eq_true rfl)) d_effect_351 ⟨(Nat.le_of_ble_eq_true rfl), (Nat.le_of_ble_eq_true rfl)⟩) (fun r38 hr38 => ?_)
    exact W.iret hx hb hr (fun t ht hW => ⟨_, rfl, trivial, ht⟩) (fun _ h => by cases h) d_effect_354
  · skip
    refine lv_iload_n hx hb d_effect_355 rfl (lv_at hl 6 rfl) ?_
    refine lv_iload_n hx hb d_effect_356 rfl (lv_at hl 4 rfl) ?_
    refine lv_iconst (v := 0) hx hb d_effect_357 (by decide) ?_
    refine vp_callSi (W.runS (As := [.int u, .int y, .int 0]) (rest := []) ⟨hx, hb, hml, hown, hts⟩ (c_withRegister l u y 0) (cwS 3 hts g_effect_358 rfl rfl rfl (by decide +kernel) ⟨Nat.le_of_ble_eq_true rfl, Nat.le_of_ble_eq_true rfl⟩) ⟨fun a U g mk z => z, fun U hU hW => ⟨rfl, trivial⟩⟩ rfl rfl hl.1 rfl (lv_room (Nat.le_of_ble_eq_true rfl)) d_effect_358 ⟨(Nat.le_of_ble_eq_true rfl), (Nat.le_of_ble_eq_true rfl)⟩) (fun r39 hr39 => ?_)
    exact W.iret hx hb hr (fun t ht hW => ⟨_, rfl, trivial, ht⟩) (fun _ h => by cases h) d_effect_361
  · skip
    refine lv_iload_n hx hb d_effect_362 rfl (lv_at hl 6 rfl) ?_
    refine lv_iload_n hx hb d_effect_363 rfl (lv_at hl 4 rfl) ?_
    refine lv_iload hx hb d_effect_364 (lv_at hl 2 rfl) ?_
    refine lv_iload hx hb d_effect_366 (lv_at hl 0 rfl) ?_
    refine lv_iadd hx hb d_effect_368 ?_
    refine lv_topi (fun x40 ex40 => ?_)
    refine vp_callSi (W.runS (As := [.int u, .int y, .int x40]) (rest := []) ⟨hx, hb, hml, hown, hts⟩ (c_withRegister l u y x40) (cwS 3 hts g_effect_369 rfl rfl rfl (by decide +kernel) ⟨Nat.le_of_ble_eq_true rfl, Nat.le_of_ble_eq_true rfl⟩) ⟨fun a U g mk z => z, fun U hU hW => ⟨rfl, trivial⟩⟩ rfl rfl hl.1 rfl (lv_room (Nat.le_of_ble_eq_true rfl)) d_effect_369 ⟨(Nat.le_of_ble_eq_true rfl), (Nat.le_of_ble_eq_true rfl)⟩) (fun r41 hr41 => ?_)
    exact W.iret hx hb hr (fun t ht hW => ⟨_, rfl, trivial, ht⟩) (fun _ h => by cases h) d_effect_372
  · skip
    refine lv_iload_n hx hb d_effect_373 rfl (lv_at hl 6 rfl) ?_
    refine lv_iload hx hb d_effect_374 (lv_at hl 0 rfl) ?_
    refine lv_if_ne (tgt := 383) hx hb d_effect_376 (by decide) (fun c_376 => ?_) (fun c_376 => ?_)
    · skip
      refine lv_iconst (v := 0) hx hb d_effect_383 (by decide) ?_
      refine vp_callSi (W.runS (As := [.int u, .int 0]) (rest := []) ⟨hx, hb, hml, hown, hts⟩ (c_withFlag l u 0) (cwS 2 hts g_effect_384 rfl rfl rfl (by decide +kernel) ⟨Nat.le_of_ble_eq_true rfl, Nat.le_of_ble_eq_true rfl⟩) ⟨fun a U g mk z => z, fun U hU hW => ⟨rfl, trivial⟩⟩ rfl rfl hl.1 rfl (lv_room (Nat.le_of_ble_eq_true rfl)) d_effect_384 ⟨(Nat.le_of_ble_eq_true rfl), (Nat.le_of_ble_eq_true rfl)⟩) (fun r42 hr42 => ?_)
      exact W.iret hx hb hr (fun t ht hW => ⟨_, rfl, trivial, ht⟩) (fun _ h => by cases h) d_effect_387
    · skip
      refine lv_iconst (v := 1) hx hb d_effect_379 (by decide) ?_
      refine lv_goto (tgt := 384) hx hb d_effect_380 (by decide) ?_
      refine vp_callSi (W.runS (As := [.int u, .int 1]) (rest := []) ⟨hx, hb, hml, hown, hts⟩ (c_withFlag l u 1) (cwS 2 hts g_effect_384 rfl rfl rfl (by decide +kernel) ⟨Nat.le_of_ble_eq_true rfl, Nat.le_of_ble_eq_true rfl⟩) ⟨fun a U g mk z => z, fun U hU hW => ⟨rfl, trivial⟩⟩ rfl rfl hl.1 rfl (lv_room (Nat.le_of_ble_eq_true rfl)) d_effect_384 ⟨(Nat.le_of_ble_eq_true rfl), (Nat.le_of_ble_eq_true rfl)⟩) (fun r43 hr43 => ?_)
      exact W.iret hx hb hr (fun t ht hW => ⟨_, rfl, trivial, ht⟩) (fun _ h => by cases h) d_effect_387

abbrev rm_partsRead : Room := { frames := 0, cells := 0, slots := 0, locals := 0 }
abbrev b_partsRead : ByteArray := prog_6_method_7_code
def y_partsRead : MethodName := ⟨"Leastcode$Machine", "partsRead", "(CIII)I"⟩
def w_partsRead : List Cond := [.code ⟨"Leastcode$Machine", "partsRead", "(CIII)I"⟩ prog_6_method_7_code 4 (some .int)]
theorem d_partsRead_0 : decode b_partsRead 0 = .ok (.iload_n 0, 1) := by decide +kernel
theorem d_partsRead_1 : decode b_partsRead 1 = .ok (.lookupswitch 75 #[(98, 59), (99, 65), (102, 57), (109, 51), (122, 55)], 51) := by decide +kernel
theorem d_partsRead_52 : decode b_partsRead 52 = .ok (.iconst 1, 1) := by decide +kernel
theorem d_partsRead_53 : decode b_partsRead 53 = .ok (.iload_n 3, 1) := by decide +kernel
theorem d_partsRead_54 : decode b_partsRead 54 = .ok (.ishl, 1) := by decide +kernel
theorem d_partsRead_55 : decode b_partsRead 55 = .ok (.ireturn, 1) := by decide +kernel
theorem d_partsRead_56 : decode b_partsRead 56 = .ok (.iconst 0, 1) := by decide +kernel
theorem d_partsRead_57 : decode b_partsRead 57 = .ok (.ireturn, 1) := by decide +kernel
theorem d_partsRead_58 : decode b_partsRead 58 = .ok (.iconst 4, 1) := by decide +kernel
theorem d_partsRead_59 : decode b_partsRead 59 = .ok (.ireturn, 1) := by decide +kernel
theorem d_partsRead_60 : decode b_partsRead 60 = .ok (.iconst 1, 1) := by decide +kernel
theorem d_partsRead_61 : decode b_partsRead 61 = .ok (.iload_n 2, 1) := by decide +kernel
theorem d_partsRead_62 : decode b_partsRead 62 = .ok (.ishl, 1) := by decide +kernel
theorem d_partsRead_63 : decode b_partsRead 63 = .ok (.iconst 4, 1) := by decide +kernel
theorem d_partsRead_64 : decode b_partsRead 64 = .ok (.ior, 1) := by decide +kernel
theorem d_partsRead_65 : decode b_partsRead 65 = .ok (.ireturn, 1) := by decide +kernel
theorem d_partsRead_66 : decode b_partsRead 66 = .ok (.iconst 1, 1) := by decide +kernel
theorem d_partsRead_67 : decode b_partsRead 67 = .ok (.iload_n 2, 1) := by decide +kernel
theorem d_partsRead_68 : decode b_partsRead 68 = .ok (.ishl, 1) := by decide +kernel
theorem d_partsRead_69 : decode b_partsRead 69 = .ok (.iconst 1, 1) := by decide +kernel
theorem d_partsRead_70 : decode b_partsRead 70 = .ok (.iload_n 3, 1) := by decide +kernel
theorem d_partsRead_71 : decode b_partsRead 71 = .ok (.ishl, 1) := by decide +kernel
theorem d_partsRead_72 : decode b_partsRead 72 = .ok (.ior, 1) := by decide +kernel
theorem d_partsRead_73 : decode b_partsRead 73 = .ok (.iconst 4, 1) := by decide +kernel
theorem d_partsRead_74 : decode b_partsRead 74 = .ok (.ior, 1) := by decide +kernel
theorem d_partsRead_75 : decode b_partsRead 75 = .ok (.ireturn, 1) := by decide +kernel
theorem d_partsRead_76 : decode b_partsRead 76 = .ok (.iload_n 1, 1) := by decide +kernel
theorem d_partsRead_77 : decode b_partsRead 77 = .ok (.bipush 8, 2) := by decide +kernel
theorem d_partsRead_79 : decode b_partsRead 79 = .ok (.if_icmp .ge 13, 3) := by decide +kernel
theorem d_partsRead_82 : decode b_partsRead 82 = .ok (.iconst 1, 1) := by decide +kernel
theorem d_partsRead_83 : decode b_partsRead 83 = .ok (.iload_n 2, 1) := by decide +kernel
theorem d_partsRead_84 : decode b_partsRead 84 = .ok (.ishl, 1) := by decide +kernel
theorem d_partsRead_85 : decode b_partsRead 85 = .ok (.iconst 1, 1) := by decide +kernel
theorem d_partsRead_86 : decode b_partsRead 86 = .ok (.iload_n 3, 1) := by decide +kernel
theorem d_partsRead_87 : decode b_partsRead 87 = .ok (.ishl, 1) := by decide +kernel
theorem d_partsRead_88 : decode b_partsRead 88 = .ok (.ior, 1) := by decide +kernel
theorem d_partsRead_89 : decode b_partsRead 89 = .ok (.goto 6, 3) := by decide +kernel
theorem d_partsRead_92 : decode b_partsRead 92 = .ok (.iconst 1, 1) := by decide +kernel
theorem d_partsRead_93 : decode b_partsRead 93 = .ok (.iload_n 2, 1) := by decide +kernel
theorem d_partsRead_94 : decode b_partsRead 94 = .ok (.ishl, 1) := by decide +kernel
theorem d_partsRead_95 : decode b_partsRead 95 = .ok (.ireturn, 1) := by decide +kernel
set_option maxHeartbeats 4000000 in
set_option maxRecDepth 100000 in
theorem c_partsRead (l : Launch) (x : Int32) (y : Int32) (z : Int32) (u : Int32) : Met l y_partsRead w_partsRead rm_partsRead (va_Pc [.int x, .int y, .int z, .int u] (fun U => True)) (vp_Si (fun r => True)) 0 0 (fun _ => False) := by
  refine Met.ofW (cc := b_partsRead) (maxL := 4) (ret := (some .int)) (by decide) rfl ?_
  intro p e s m args below meth c s₁ B hml hv
  obtain ⟨rfl, -⟩ := hv
  have hx := B.exec
  have hb := B.bytes
  have hr := B.returns
  have hts := atoms_spec (ws := w_partsRead) B.pre
  have hown : s.vm.findClass "Leastcode$Machine" = some m.cls := findClass_of_methodNamed B.named
  have hlocks := B.notSynchronized
  have hl := lv_entry ([.int x, .int y, .int z, .int u]) (n := 4) (Nat.le_of_ble_eq_true rfl)
  rw [lg_entry_eq]
  generalize (lg_sl ([.int x, .int y, .int z, .int u]) ++ List.replicate (4 - (lg_sl ([.int x, .int y, .int z, .int u])).length) Slot.unset).toArray = ls at hl ⊢
  have hl : lv_has ls 4 [(0, .int x), (1, .int y), (2, .int z), (3, .int u)] := hl
  refine lv_iload_n hx hb d_partsRead_0 rfl (lv_at hl 0 rfl) ?_
  refine ry_lookup hx hb d_partsRead_1 (by decide) [52, 56, 58, 60, 66, 76] (by decide) (by decide) (List.forall_mem_cons.mpr ⟨?_, (List.forall_mem_cons.mpr ⟨?_, (List.forall_mem_cons.mpr ⟨?_, (List.forall_mem_cons.mpr ⟨?_, (List.forall_mem_cons.mpr ⟨?_, (List.forall_mem_cons.mpr ⟨?_, fun _ h9 => absurd h9 List.not_mem_nil⟩)⟩)⟩)⟩)⟩)⟩)
  · skip
    refine lv_iconst (v := 1) hx hb d_partsRead_52 (by decide) ?_
    refine lv_iload_n hx hb d_partsRead_53 rfl (lv_at hl 3 rfl) ?_
    refine lv_ishl hx hb d_partsRead_54 ?_
    refine lv_topi (fun x1 ex1 => ?_)
    exact W.iret hx hb hr (fun t ht hW => ⟨_, rfl, trivial, ht⟩) (fun _ h => by cases h) d_partsRead_55
  · skip
    refine lv_iconst (v := 0) hx hb d_partsRead_56 (by decide) ?_
    exact W.iret hx hb hr (fun t ht hW => ⟨_, rfl, trivial, ht⟩) (fun _ h => by cases h) d_partsRead_57
  · skip
    refine lv_iconst (v := 4) hx hb d_partsRead_58 (by decide) ?_
    exact W.iret hx hb hr (fun t ht hW => ⟨_, rfl, trivial, ht⟩) (fun _ h => by cases h) d_partsRead_59
  · skip
    refine lv_iconst (v := 1) hx hb d_partsRead_60 (by decide) ?_
    refine lv_iload_n hx hb d_partsRead_61 rfl (lv_at hl 2 rfl) ?_
    refine lv_ishl hx hb d_partsRead_62 ?_
    refine lv_topi (fun x2 ex2 => ?_)
    refine lv_iconst (v := 4) hx hb d_partsRead_63 (by decide) ?_
    refine lv_ior hx hb d_partsRead_64 ?_
    refine lv_topi (fun x3 ex3 => ?_)
    exact W.iret hx hb hr (fun t ht hW => ⟨_, rfl, trivial, ht⟩) (fun _ h => by cases h) d_partsRead_65
  · skip
    refine lv_iconst (v := 1) hx hb d_partsRead_66 (by decide) ?_
    refine lv_iload_n hx hb d_partsRead_67 rfl (lv_at hl 2 rfl) ?_
    refine lv_ishl hx hb d_partsRead_68 ?_
    refine lv_topi (fun x4 ex4 => ?_)
    refine lv_iconst (v := 1) hx hb d_partsRead_69 (by decide) ?_
    refine lv_iload_n hx hb d_partsRead_70 rfl (lv_at hl 3 rfl) ?_
    refine lv_ishl hx hb d_partsRead_71 ?_
    refine lv_topi (fun x5 ex5 => ?_)
    refine lv_ior hx hb d_partsRead_72 ?_
    refine lv_topi (fun x6 ex6 => ?_)
    refine lv_iconst (v := 4) hx hb d_partsRead_73 (by decide) ?_
    refine lv_ior hx hb d_partsRead_74 ?_
    refine lv_topi (fun x7 ex7 => ?_)
    exact W.iret hx hb hr (fun t ht hW => ⟨_, rfl, trivial, ht⟩) (fun _ h => by cases h) d_partsRead_75
  · skip
    refine lv_iload_n hx hb d_partsRead_76 rfl (lv_at hl 1 rfl) ?_
    refine lv_bipush (v := 8) hx hb d_partsRead_77 (by decide) ?_
    refine lv_icmp_ge (tgt := 92) hx hb d_partsRead_79 (by decide) (fun c_79 => ?_) (fun c_79 => ?_)
    · skip
      refine lv_iconst (v := 1) hx hb d_partsRead_92 (by decide) ?_
      refine lv_iload_n hx hb d_partsRead_93 rfl (lv_at hl 2 rfl) ?_
      refine lv_ishl hx hb d_partsRead_94 ?_
      refine lv_topi (fun x8 ex8 => ?_)
      exact W.iret hx hb hr (fun t ht hW => ⟨_, rfl, trivial, ht⟩) (fun _ h => by cases h) d_partsRead_95
    · skip
      refine lv_iconst (v := 1) hx hb d_partsRead_82 (by decide) ?_
      refine lv_iload_n hx hb d_partsRead_83 rfl (lv_at hl 2 rfl) ?_
      refine lv_ishl hx hb d_partsRead_84 ?_
      refine lv_topi (fun x9 ex9 => ?_)
      refine lv_iconst (v := 1) hx hb d_partsRead_85 (by decide) ?_
      refine lv_iload_n hx hb d_partsRead_86 rfl (lv_at hl 3 rfl) ?_
      refine lv_ishl hx hb d_partsRead_87 ?_
      refine lv_topi (fun x10 ex10 => ?_)
      refine lv_ior hx hb d_partsRead_88 ?_
      refine lv_topi (fun x11 ex11 => ?_)
      refine lv_goto (tgt := 95) hx hb d_partsRead_89 (by decide) ?_
      exact W.iret hx hb hr (fun t ht hW => ⟨_, rfl, trivial, ht⟩) (fun _ h => by cases h) d_partsRead_95

abbrev rm_partsWritten : Room := { frames := 0, cells := 0, slots := 0, locals := 0 }
abbrev b_partsWritten : ByteArray := prog_6_method_8_code
def y_partsWritten : MethodName := ⟨"Leastcode$Machine", "partsWritten", "(CI)I"⟩
def w_partsWritten : List Cond := [.code ⟨"Leastcode$Machine", "partsWritten", "(CI)I"⟩ prog_6_method_8_code 2 (some .int)]
theorem d_partsWritten_0 : decode b_partsWritten 0 = .ok (.iload_n 0, 1) := by decide +kernel
theorem d_partsWritten_1 : decode b_partsWritten 1 = .ok (.tableswitch 99 97 115 #[93, 99, 99, 99, 99, 91, 99, 99, 99, 99, 91, 93, 99, 99, 99, 99, 99, 93, 93], 91) := by decide +kernel
theorem d_partsWritten_92 : decode b_partsWritten 92 = .ok (.iconst 4, 1) := by decide +kernel
theorem d_partsWritten_93 : decode b_partsWritten 93 = .ok (.ireturn, 1) := by decide +kernel
theorem d_partsWritten_94 : decode b_partsWritten 94 = .ok (.iconst 1, 1) := by decide +kernel
theorem d_partsWritten_95 : decode b_partsWritten 95 = .ok (.iload_n 1, 1) := by decide +kernel
theorem d_partsWritten_96 : decode b_partsWritten 96 = .ok (.ishl, 1) := by decide +kernel
theorem d_partsWritten_97 : decode b_partsWritten 97 = .ok (.iconst 4, 1) := by decide +kernel
theorem d_partsWritten_98 : decode b_partsWritten 98 = .ok (.ior, 1) := by decide +kernel
theorem d_partsWritten_99 : decode b_partsWritten 99 = .ok (.ireturn, 1) := by decide +kernel
theorem d_partsWritten_100 : decode b_partsWritten 100 = .ok (.iconst 1, 1) := by decide +kernel
theorem d_partsWritten_101 : decode b_partsWritten 101 = .ok (.iload_n 1, 1) := by decide +kernel
theorem d_partsWritten_102 : decode b_partsWritten 102 = .ok (.ishl, 1) := by decide +kernel
theorem d_partsWritten_103 : decode b_partsWritten 103 = .ok (.ireturn, 1) := by decide +kernel
set_option maxHeartbeats 4000000 in
set_option maxRecDepth 100000 in
theorem c_partsWritten (l : Launch) (x : Int32) (y : Int32) : Met l y_partsWritten w_partsWritten rm_partsWritten (va_Pc [.int x, .int y] (fun U => True)) (vp_Si (fun r => True)) 0 0 (fun _ => False) := by
  refine Met.ofW (cc := b_partsWritten) (maxL := 2) (ret := (some .int)) (by decide) rfl ?_
  intro p e s m args below meth c s₁ B hml hv
  obtain ⟨rfl, -⟩ := hv
  have hx := B.exec
  have hb := B.bytes
  have hr := B.returns
  have hts := atoms_spec (ws := w_partsWritten) B.pre
  have hown : s.vm.findClass "Leastcode$Machine" = some m.cls := findClass_of_methodNamed B.named
  have hlocks := B.notSynchronized
  have hl := lv_entry ([.int x, .int y]) (n := 2) (Nat.le_of_ble_eq_true rfl)
  rw [lg_entry_eq]
  generalize (lg_sl ([.int x, .int y]) ++ List.replicate (2 - (lg_sl ([.int x, .int y])).length) Slot.unset).toArray = ls at hl ⊢
  have hl : lv_has ls 2 [(0, .int x), (1, .int y)] := hl
  refine lv_iload_n hx hb d_partsWritten_0 rfl (lv_at hl 0 rfl) ?_
  refine ry_table hx hb d_partsWritten_1 [92, 94, 100] (by decide) (by decide +kernel) (by decide) (List.forall_mem_cons.mpr ⟨?_, (List.forall_mem_cons.mpr ⟨?_, (List.forall_mem_cons.mpr ⟨?_, fun _ h9 => absurd h9 List.not_mem_nil⟩)⟩)⟩)
  · skip
    refine lv_iconst (v := 4) hx hb d_partsWritten_92 (by decide) ?_
    exact W.iret hx hb hr (fun t ht hW => ⟨_, rfl, trivial, ht⟩) (fun _ h => by cases h) d_partsWritten_93
  · skip
    refine lv_iconst (v := 1) hx hb d_partsWritten_94 (by decide) ?_
    refine lv_iload_n hx hb d_partsWritten_95 rfl (lv_at hl 1 rfl) ?_
    refine lv_ishl hx hb d_partsWritten_96 ?_
    refine lv_topi (fun x1 ex1 => ?_)
    refine lv_iconst (v := 4) hx hb d_partsWritten_97 (by decide) ?_
    refine lv_ior hx hb d_partsWritten_98 ?_
    refine lv_topi (fun x2 ex2 => ?_)
    exact W.iret hx hb hr (fun t ht hW => ⟨_, rfl, trivial, ht⟩) (fun _ h => by cases h) d_partsWritten_99
  · skip
    refine lv_iconst (v := 1) hx hb d_partsWritten_100 (by decide) ?_
    refine lv_iload_n hx hb d_partsWritten_101 rfl (lv_at hl 1 rfl) ?_
    refine lv_ishl hx hb d_partsWritten_102 ?_
    refine lv_topi (fun x3 ex3 => ?_)
    exact W.iret hx hb hr (fun t ht hW => ⟨_, rfl, trivial, ht⟩) (fun _ h => by cases h) d_partsWritten_103

abbrev rm_numberOf : Room := { frames := 0, cells := 0, slots := 0, locals := 0 }
abbrev b_numberOf : ByteArray := prog_6_method_2_code
def y_numberOf : MethodName := ⟨"Leastcode$Machine", "numberOf", "(III)I"⟩
def w_numberOf : List Cond := [.code ⟨"Leastcode$Machine", "numberOf", "(III)I"⟩ prog_6_method_2_code 3 (some .int)]
theorem d_numberOf_0 : decode b_numberOf 0 = .ok (.iload_n 0, 1) := by decide +kernel
theorem d_numberOf_1 : decode b_numberOf 1 = .ok (.bipush 15, 2) := by decide +kernel
theorem d_numberOf_3 : decode b_numberOf 3 = .ok (.if_icmp .lt 6, 3) := by decide +kernel
theorem d_numberOf_6 : decode b_numberOf 6 = .ok (.bipush 46, 2) := by decide +kernel
theorem d_numberOf_8 : decode b_numberOf 8 = .ok (.ireturn, 1) := by decide +kernel
theorem d_numberOf_9 : decode b_numberOf 9 = .ok (.iload_n 1, 1) := by decide +kernel
theorem d_numberOf_10 : decode b_numberOf 10 = .ok (.ifCond .lt 8, 3) := by decide +kernel
theorem d_numberOf_13 : decode b_numberOf 13 = .ok (.iload_n 1, 1) := by decide +kernel
theorem d_numberOf_14 : decode b_numberOf 14 = .ok (.iconst 1, 1) := by decide +kernel
theorem d_numberOf_15 : decode b_numberOf 15 = .ok (.if_icmp .le 5, 3) := by decide +kernel
theorem d_numberOf_18 : decode b_numberOf 18 = .ok (.iconst (-1), 1) := by decide +kernel
theorem d_numberOf_19 : decode b_numberOf 19 = .ok (.ireturn, 1) := by decide +kernel
theorem d_numberOf_20 : decode b_numberOf 20 = .ok (.iload_n 0, 1) := by decide +kernel
theorem d_numberOf_21 : decode b_numberOf 21 = .ok (.bipush 8, 2) := by decide +kernel
theorem d_numberOf_23 : decode b_numberOf 23 = .ok (.if_icmp .lt 15, 3) := by decide +kernel
theorem d_numberOf_26 : decode b_numberOf 26 = .ok (.bipush 32, 2) := by decide +kernel
theorem d_numberOf_28 : decode b_numberOf 28 = .ok (.iconst 2, 1) := by decide +kernel
theorem d_numberOf_29 : decode b_numberOf 29 = .ok (.iload_n 0, 1) := by decide +kernel
theorem d_numberOf_30 : decode b_numberOf 30 = .ok (.bipush 8, 2) := by decide +kernel
theorem d_numberOf_32 : decode b_numberOf 32 = .ok (.isub, 1) := by decide +kernel
theorem d_numberOf_33 : decode b_numberOf 33 = .ok (.imul, 1) := by decide +kernel
theorem d_numberOf_34 : decode b_numberOf 34 = .ok (.iadd, 1) := by decide +kernel
theorem d_numberOf_35 : decode b_numberOf 35 = .ok (.iload_n 1, 1) := by decide +kernel
theorem d_numberOf_36 : decode b_numberOf 36 = .ok (.iadd, 1) := by decide +kernel
theorem d_numberOf_37 : decode b_numberOf 37 = .ok (.ireturn, 1) := by decide +kernel
theorem d_numberOf_38 : decode b_numberOf 38 = .ok (.iload_n 2, 1) := by decide +kernel
theorem d_numberOf_39 : decode b_numberOf 39 = .ok (.ifCond .lt 8, 3) := by decide +kernel
theorem d_numberOf_42 : decode b_numberOf 42 = .ok (.iload_n 2, 1) := by decide +kernel
theorem d_numberOf_43 : decode b_numberOf 43 = .ok (.iconst 1, 1) := by decide +kernel
theorem d_numberOf_44 : decode b_numberOf 44 = .ok (.if_icmp .le 5, 3) := by decide +kernel
theorem d_numberOf_47 : decode b_numberOf 47 = .ok (.iconst (-1), 1) := by decide +kernel
theorem d_numberOf_48 : decode b_numberOf 48 = .ok (.ireturn, 1) := by decide +kernel
theorem d_numberOf_49 : decode b_numberOf 49 = .ok (.iconst 4, 1) := by decide +kernel
theorem d_numberOf_50 : decode b_numberOf 50 = .ok (.iload_n 0, 1) := by decide +kernel
theorem d_numberOf_51 : decode b_numberOf 51 = .ok (.imul, 1) := by decide +kernel
theorem d_numberOf_52 : decode b_numberOf 52 = .ok (.iconst 2, 1) := by decide +kernel
theorem d_numberOf_53 : decode b_numberOf 53 = .ok (.iload_n 1, 1) := by decide +kernel
theorem d_numberOf_54 : decode b_numberOf 54 = .ok (.imul, 1) := by decide +kernel
theorem d_numberOf_55 : decode b_numberOf 55 = .ok (.iadd, 1) := by decide +kernel
theorem d_numberOf_56 : decode b_numberOf 56 = .ok (.iload_n 2, 1) := by decide +kernel
theorem d_numberOf_57 : decode b_numberOf 57 = .ok (.iadd, 1) := by decide +kernel
theorem d_numberOf_58 : decode b_numberOf 58 = .ok (.ireturn, 1) := by decide +kernel
set_option maxHeartbeats 4000000 in
set_option maxRecDepth 100000 in
theorem c_numberOf (l : Launch) (x : Int32) (y : Int32) (z : Int32) : Met l y_numberOf w_numberOf rm_numberOf (va_Pc [.int x, .int y, .int z] (fun U => True)) (vp_Si (fun r => True)) 0 0 (fun _ => False) := by
  refine Met.ofW (cc := b_numberOf) (maxL := 3) (ret := (some .int)) (by decide) rfl ?_
  intro p e s m args below meth c s₁ B hml hv
  obtain ⟨rfl, -⟩ := hv
  have hx := B.exec
  have hb := B.bytes
  have hr := B.returns
  have hts := atoms_spec (ws := w_numberOf) B.pre
  have hown : s.vm.findClass "Leastcode$Machine" = some m.cls := findClass_of_methodNamed B.named
  have hlocks := B.notSynchronized
  have hl := lv_entry ([.int x, .int y, .int z]) (n := 3) (Nat.le_of_ble_eq_true rfl)
  rw [lg_entry_eq]
  generalize (lg_sl ([.int x, .int y, .int z]) ++ List.replicate (3 - (lg_sl ([.int x, .int y, .int z])).length) Slot.unset).toArray = ls at hl ⊢
  have hl : lv_has ls 3 [(0, .int x), (1, .int y), (2, .int z)] := hl
  refine lv_iload_n hx hb d_numberOf_0 rfl (lv_at hl 0 rfl) ?_
  refine lv_bipush (v := 15) hx hb d_numberOf_1 (by decide) ?_
  refine lv_icmp_lt (tgt := 9) hx hb d_numberOf_3 (by decide) (fun c_3 => ?_) (fun c_3 => ?_)
  · skip
    refine lv_iload_n hx hb d_numberOf_9 rfl (lv_at hl 1 rfl) ?_
    refine lv_if_lt (tgt := 18) hx hb d_numberOf_10 (by decide) (fun c_10 => ?_) (fun c_10 => ?_)
    · skip
      refine lv_iconst (v := (-1)) hx hb d_numberOf_18 (by decide) ?_
      exact W.iret hx hb hr (fun t ht hW => ⟨_, rfl, trivial, ht⟩) (fun _ h => by cases h) d_numberOf_19
    · skip
      refine lv_iload_n hx hb d_numberOf_13 rfl (lv_at hl 1 rfl) ?_
      refine lv_iconst (v := 1) hx hb d_numberOf_14 (by decide) ?_
      refine lv_icmp_le (tgt := 20) hx hb d_numberOf_15 (by decide) (fun c_15 => ?_) (fun c_15 => ?_)
      · skip
        refine lv_iload_n hx hb d_numberOf_20 rfl (lv_at hl 0 rfl) ?_
        refine lv_bipush (v := 8) hx hb d_numberOf_21 (by decide) ?_
        refine lv_icmp_lt (tgt := 38) hx hb d_numberOf_23 (by decide) (fun c_23 => ?_) (fun c_23 => ?_)
        · skip
          refine lv_iload_n hx hb d_numberOf_38 rfl (lv_at hl 2 rfl) ?_
          refine lv_if_lt (tgt := 47) hx hb d_numberOf_39 (by decide) (fun c_39 => ?_) (fun c_39 => ?_)
          · skip
            refine lv_iconst (v := (-1)) hx hb d_numberOf_47 (by decide) ?_
            exact W.iret hx hb hr (fun t ht hW => ⟨_, rfl, trivial, ht⟩) (fun _ h => by cases h) d_numberOf_48
          · skip
            refine lv_iload_n hx hb d_numberOf_42 rfl (lv_at hl 2 rfl) ?_
            refine lv_iconst (v := 1) hx hb d_numberOf_43 (by decide) ?_
            refine lv_icmp_le (tgt := 49) hx hb d_numberOf_44 (by decide) (fun c_44 => ?_) (fun c_44 => ?_)
            · skip
              refine lv_iconst (v := 4) hx hb d_numberOf_49 (by decide) ?_
              refine lv_iload_n hx hb d_numberOf_50 rfl (lv_at hl 0 rfl) ?_
              refine lv_imul hx hb d_numberOf_51 ?_
              refine lv_topi (fun x1 ex1 => ?_)
              refine lv_iconst (v := 2) hx hb d_numberOf_52 (by decide) ?_
              refine lv_iload_n hx hb d_numberOf_53 rfl (lv_at hl 1 rfl) ?_
              refine lv_imul hx hb d_numberOf_54 ?_
              refine lv_topi (fun x2 ex2 => ?_)
              refine lv_iadd hx hb d_numberOf_55 ?_
              refine lv_topi (fun x3 ex3 => ?_)
              refine lv_iload_n hx hb d_numberOf_56 rfl (lv_at hl 2 rfl) ?_
              refine lv_iadd hx hb d_numberOf_57 ?_
              refine lv_topi (fun x4 ex4 => ?_)
              exact W.iret hx hb hr (fun t ht hW => ⟨_, rfl, trivial, ht⟩) (fun _ h => by cases h) d_numberOf_58
            · skip
              refine lv_iconst (v := (-1)) hx hb d_numberOf_47 (by decide) ?_
              exact W.iret hx hb hr (fun t ht hW => ⟨_, rfl, trivial, ht⟩) (fun _ h => by cases h) d_numberOf_48
        · skip
          refine lv_bipush (v := 32) hx hb d_numberOf_26 (by decide) ?_
          refine lv_iconst (v := 2) hx hb d_numberOf_28 (by decide) ?_
          refine lv_iload_n hx hb d_numberOf_29 rfl (lv_at hl 0 rfl) ?_
          refine lv_bipush (v := 8) hx hb d_numberOf_30 (by decide) ?_
          refine lv_isub hx hb d_numberOf_32 ?_
          refine lv_topi (fun x5 ex5 => ?_)
          refine lv_imul hx hb d_numberOf_33 ?_
          refine lv_topi (fun x6 ex6 => ?_)
          refine lv_iadd hx hb d_numberOf_34 ?_
          refine lv_topi (fun x7 ex7 => ?_)
          refine lv_iload_n hx hb d_numberOf_35 rfl (lv_at hl 1 rfl) ?_
          refine lv_iadd hx hb d_numberOf_36 ?_
          refine lv_topi (fun x8 ex8 => ?_)
          exact W.iret hx hb hr (fun t ht hW => ⟨_, rfl, trivial, ht⟩) (fun _ h => by cases h) d_numberOf_37
      · skip
        refine lv_iconst (v := (-1)) hx hb d_numberOf_18 (by decide) ?_
        exact W.iret hx hb hr (fun t ht hW => ⟨_, rfl, trivial, ht⟩) (fun _ h => by cases h) d_numberOf_19
  · skip
    refine lv_bipush (v := 46) hx hb d_numberOf_6 (by decide) ?_
    exact W.iret hx hb hr (fun t ht hW => ⟨_, rfl, trivial, ht⟩) (fun _ h => by cases h) d_numberOf_8
end
section
abbrev rm_Code_init : Room := { frames := 1, cells := 1, slots := 8, locals := 12 }
abbrev b_Code_init : ByteArray := prog_2_method_1_code
def y_Code_init : MethodName := ⟨"Leastcode$Code", "<init>", "()V"⟩
def w_Code_init : List Cond := [.code ⟨"Leastcode$Code", "<init>", "()V"⟩ prog_2_method_1_code 1 none, .methodLink "Leastcode$Code" 3 ⟨"java/lang/Object", "<init>", "()V"⟩, .instanceMethod ⟨"java/lang/Object", "<init>", "()V"⟩, .code ⟨"java/lang/Object", "<init>", "()V"⟩ object_method_1_code 1 none, .arrayClass .int, .laysFinal "Leastcode$Code" "Leastcode$Code" "numbers" "[I", .lays "Leastcode$Code" "Leastcode$Code" "length" "I", .fieldLink "Leastcode$Code" 9 "Leastcode$Code" "numbers" "[I"]
theorem d_Code_init_0 : decode b_Code_init 0 = .ok (.aload_n 0, 1) := by decide +kernel
theorem d_Code_init_1 : decode b_Code_init 1 = .ok (.invokespecial 3, 3) := by decide +kernel
theorem d_Code_init_4 : decode b_Code_init 4 = .ok (.aload_n 0, 1) := by decide +kernel
theorem d_Code_init_5 : decode b_Code_init 5 = .ok (.bipush 8, 2) := by decide +kernel
theorem d_Code_init_7 : decode b_Code_init 7 = .ok (.newarray .int, 2) := by decide +kernel
theorem d_Code_init_9 : decode b_Code_init 9 = .ok (.putfield 9, 3) := by decide +kernel
theorem d_Code_init_12 : decode b_Code_init 12 = .ok (.return_, 1) := by decide +kernel
theorem in_Code_init_CO : ∀ v ∈ u_ws R_CO T_CO 2, v ∈ w_Code_init := by decide +kernel
set_option maxHeartbeats 4000000 in
set_option maxRecDepth 100000 in
theorem c_Code_init (l : Launch) (dC : Nat → ClassId) (dI : Nat → Nat → Nat) (h0 : Nat) (sz : Nat) : Met l y_Code_init w_Code_init rm_Code_init (va_Pc [.ref h0] (fun U => U.heap.size = sz ∧ va_P (dC, dI) classes [(h0, .inr (2, [.null, .int 0]))] U.heap ∧ va_K (dC, dI) classes [] U ∧ va_D (fun _ => True) [(h0, .inr (2, [.null, .int 0]))])) (va_Qv (fun (_ : Unit) => True) (fun _ t => ∃ q : Nat, ∃ cA : ClassId, va_P (dC, dI) classes [(h0, .inr (2, [.ref q, .int 0])), (q, .inl (cA, 8, .inl (fun _ => 0)))] t.heap ∧ va_K (dC, dI) classes [(cA, .int)] t ∧ va_D (va_A [(h0, .inr (2, [.null, .int 0]))] sz) [(h0, .inr (2, [.ref q, .int 0])), (q, .inl (cA, 8, .inl (fun _ => 0)))]) (va_A [(h0, .inr (2, [.null, .int 0]))] sz)) 1 8 (va_A [(h0, .inr (2, [.null, .int 0]))] sz) := by
  refine Met.ofW (cc := b_Code_init) (maxL := 1) (ret := none) (by decide) rfl ?_
  intro p e s m args below meth c s₁ B hml hv
  obtain ⟨rfl, hsz, hP, hK, hD0⟩ := hv
  have hx := B.exec
  have hb := B.bytes
  have hr := B.returns
  have hts := atoms_spec (ws := w_Code_init) B.pre
  have hown : s.vm.findClass "Leastcode$Code" = some m.cls := findClass_of_methodNamed B.named
  have hlocks := B.notSynchronized
  have hin : meth.name = "<init>" := (name_of_methodNamed B.named B.method).1
  subst hsz
  have hD := hD0.self (sz := s.heap.size)
  generalize hAe : va_A [(h0, .inr (2, [.null, .int 0]))] s.heap.size = A at hD ⊢
  have hA : ∀ q : Nat, s.heap.size ≤ q → A q := fun q h => by rw [← hAe]; exact Or.inr h
  have hS : va_S A s.heap s.heap [] := va_S.rf
  have hP : va_P (dC, dI) classes [(h0, .inr (2, [.null, .int 0]))] s.heap := hP
  have hl := lv_entry ([.ref h0]) (n := 1) (Nat.le_of_ble_eq_true rfl)
  rw [lg_entry_eq]
  generalize (lg_sl ([.ref h0]) ++ List.replicate (1 - (lg_sl ([.ref h0])).length) Slot.unset).toArray = ls at hl ⊢
  have hl : lv_has ls 1 [(0, .ref h0)] := hl
  refine lv_aload_n hx hb d_Code_init_0 rfl (lv_at hl 0 rfl) ?_
  refine W.objInit hx hb hown (hts (.methodLink "Leastcode$Code" 3 ⟨"java/lang/Object", "<init>", "()V"⟩) (List.mem_of_getElem? (i := 1) rfl)) (hts (.instanceMethod ⟨"java/lang/Object", "<init>", "()V"⟩) (List.mem_of_getElem? (i := 2) rfl)) (hts (.code ⟨"java/lang/Object", "<init>", "()V"⟩ object_method_1_code 1 none) (List.mem_of_getElem? (i := 3) rfl)) rfl (by rw [hml]; exact hl.1) rfl d_Code_init_1 (Nat.le_of_ble_eq_true rfl) (Nat.le_of_ble_eq_true rfl) ?_
  refine W.eq (g2 := F0 m 4 ls []) rfl ?_
  refine lv_aload_n hx hb d_Code_init_4 rfl (lv_at hl 0 rfl) ?_
  refine lv_bipush (v := 8) hx hb d_Code_init_5 (by decide) ?_
  refine va_newa (D := (dC, dI)) (atype := .int) (a0 := (8, .inl (fun _ => 0))) (ty := .int) (N' := 8) hx hb (hts (.arrayClass .int) (List.mem_of_getElem? (i := 4) rfl)) rfl hK hP hD hS hA (fun cA => rfl) (by decide) (by decide) (Nat.le_of_ble_eq_true rfl) (Nat.le_of_ble_eq_true rfl) (Nat.le_of_ble_eq_true rfl) d_Code_init_7 (fun q1 cA2 H hK hP hD hS => ?_)
  have hP : va_P (dC, dI) classes [(h0, .inr (2, [.null, .int 0])), (q1, .inl (cA2, 8, .inl (fun _ => 0)))] H := hP
  have hK : va_K (dC, dI) classes [(cA2, .int)] s := hK
  have hD : va_D A [(h0, .inr (2, [.null, .int 0])), (q1, .inl (cA2, 8, .inl (fun _ => 0)))] := hD
  refine W.widen (k := 1) (n := 8) (by omega) (by omega) ?_
  refine va_putF (D := (dC, dI)) (ci := 2) (v := .ref q1) (ty := .array .int) (C := R_CO) (T := T_CO) (N := 2) hx hb hts in_Code_init_CO t_CO t_CO_ok n_CO hown hK hP hD hS 0 rfl rfl 0 (by decide) (hts (.fieldLink "Leastcode$Code" 9 "Leastcode$Code" "numbers" "[I") (List.mem_of_getElem? (i := 7) rfl)) (fun _ h9 => h9) rfl hin rfl (by decide +kernel) rfl rfl (Nat.le_of_ble_eq_true rfl) d_Code_init_9 (fun H locs hP hD hS => ?_)
  have hP : va_P (dC, dI) classes [(h0, .inr (2, [.ref q1, .int 0])), (q1, .inl (cA2, 8, .inl (fun _ => 0)))] H := hP
  have hD : va_D A [(h0, .inr (2, [.ref q1, .int 0])), (q1, .inl (cA2, 8, .inl (fun _ => 0)))] := hD
  have hP9 : va_P (dC, dI) classes [(h0, .inr (2, [.ref q1, .int 0])), (q1, .inl (cA2, 8, .inl (fun _ => 0)))] H := hP.sub (ws' := [(h0, .inr (2, [.ref q1, .int 0])), (q1, .inl (cA2, 8, .inl (fun _ => 0)))]) [0, 1] rfl
  have hD9 := hD.sub (ws' := [(h0, .inr (2, [.ref q1, .int 0])), (q1, .inl (cA2, 8, .inl (fun _ => 0)))]) [0, 1] (by decide) rfl
  have hK9 := hK.sub (tys' := [(cA2, .int)]) [0] rfl
  refine W.widen (k := 1) (n := 8) (by omega) (by omega) ?_
  exact W.vret hx hb hr (fun t ht hW => ⟨⟨(), rfl, trivial, ⟨q1, ⟨cA2, ⟨by rw [ht]; exact hP9, va_K.moved hW.alike hK9, hD9⟩⟩⟩⟩, hS.F ht⟩) hS.2.2 d_Code_init_12

abbrev rm_Goal_init : Room := { frames := 1, cells := 1, slots := 128, locals := 12 }
abbrev b_Goal_init : ByteArray := prog_4_method_1_code
def y_Goal_init : MethodName := ⟨"Leastcode$Goal", "<init>", "()V"⟩
def w_Goal_init : List Cond := [.code ⟨"Leastcode$Goal", "<init>", "()V"⟩ prog_4_method_1_code 1 none, .methodLink "Leastcode$Goal" 3 ⟨"java/lang/Object", "<init>", "()V"⟩, .instanceMethod ⟨"java/lang/Object", "<init>", "()V"⟩, .code ⟨"java/lang/Object", "<init>", "()V"⟩ object_method_1_code 1 none, .arrayClass .int, .laysFinal "Leastcode$Goal" "Leastcode$Goal" "wanted" "[I", .lays "Leastcode$Goal" "Leastcode$Goal" "liveParts" "I", .fieldLink "Leastcode$Goal" 9 "Leastcode$Goal" "wanted" "[I"]
theorem d_Goal_init_0 : decode b_Goal_init 0 = .ok (.aload_n 0, 1) := by decide +kernel
theorem d_Goal_init_1 : decode b_Goal_init 1 = .ok (.invokespecial 3, 3) := by decide +kernel
theorem d_Goal_init_4 : decode b_Goal_init 4 = .ok (.aload_n 0, 1) := by decide +kernel
theorem d_Goal_init_5 : decode b_Goal_init 5 = .ok (.sipush 128, 3) := by decide +kernel
theorem d_Goal_init_8 : decode b_Goal_init 8 = .ok (.newarray .int, 2) := by decide +kernel
theorem d_Goal_init_10 : decode b_Goal_init 10 = .ok (.putfield 9, 3) := by decide +kernel
theorem d_Goal_init_13 : decode b_Goal_init 13 = .ok (.return_, 1) := by decide +kernel
theorem in_Goal_init_GO : ∀ v ∈ u_ws R_GO T_GO 2, v ∈ w_Goal_init := by decide +kernel
set_option maxHeartbeats 4000000 in
set_option maxRecDepth 100000 in
theorem c_Goal_init (l : Launch) (dC : Nat → ClassId) (dI : Nat → Nat → Nat) (h0 : Nat) (sz : Nat) : Met l y_Goal_init w_Goal_init rm_Goal_init (va_Pc [.ref h0] (fun U => U.heap.size = sz ∧ va_P (dC, dI) classes [(h0, .inr (6, [.null, .int 0]))] U.heap ∧ va_K (dC, dI) classes [] U ∧ va_D (fun _ => True) [(h0, .inr (6, [.null, .int 0]))])) (va_Qv (fun (_ : Unit) => True) (fun _ t => ∃ q : Nat, va_P (dC, dI) classes [(h0, .inr (6, [.ref q, .int 0]))] t.heap ∧ va_K (dC, dI) classes [] t ∧ va_D (va_A [(h0, .inr (6, [.null, .int 0]))] sz) [(h0, .inr (6, [.ref q, .int 0]))]) (va_A [(h0, .inr (6, [.null, .int 0]))] sz)) 1 128 (va_A [(h0, .inr (6, [.null, .int 0]))] sz) := by
  refine Met.ofW (cc := b_Goal_init) (maxL := 1) (ret := none) (by decide) rfl ?_
  intro p e s m args below meth c s₁ B hml hv
  obtain ⟨rfl, hsz, hP, hK, hD0⟩ := hv
  have hx := B.exec
  have hb := B.bytes
  have hr := B.returns
  have hts := atoms_spec (ws := w_Goal_init) B.pre
  have hown : s.vm.findClass "Leastcode$Goal" = some m.cls := findClass_of_methodNamed B.named
  have hlocks := B.notSynchronized
  have hin : meth.name = "<init>" := (name_of_methodNamed B.named B.method).1
  subst hsz
  have hD := hD0.self (sz := s.heap.size)
  generalize hAe : va_A [(h0, .inr (6, [.null, .int 0]))] s.heap.size = A at hD ⊢
  have hA : ∀ q : Nat, s.heap.size ≤ q → A q := fun q h => by rw [← hAe]; exact Or.inr h
  have hS : va_S A s.heap s.heap [] := va_S.rf
  have hP : va_P (dC, dI) classes [(h0, .inr (6, [.null, .int 0]))] s.heap := hP
  have hl := lv_entry ([.ref h0]) (n := 1) (Nat.le_of_ble_eq_true rfl)
  rw [lg_entry_eq]
  generalize (lg_sl ([.ref h0]) ++ List.replicate (1 - (lg_sl ([.ref h0])).length) Slot.unset).toArray = ls at hl ⊢
  have hl : lv_has ls 1 [(0, .ref h0)] := hl
  refine lv_aload_n hx hb d_Goal_init_0 rfl (lv_at hl 0 rfl) ?_
  refine W.objInit hx hb hown (hts (.methodLink "Leastcode$Goal" 3 ⟨"java/lang/Object", "<init>", "()V"⟩) (List.mem_of_getElem? (i := 1) rfl)) (hts (.instanceMethod ⟨"java/lang/Object", "<init>", "()V"⟩) (List.mem_of_getElem? (i := 2) rfl)) (hts (.code ⟨"java/lang/Object", "<init>", "()V"⟩ object_method_1_code 1 none) (List.mem_of_getElem? (i := 3) rfl)) rfl (by rw [hml]; exact hl.1) rfl d_Goal_init_1 (Nat.le_of_ble_eq_true rfl) (Nat.le_of_ble_eq_true rfl) ?_
  refine W.eq (g2 := F0 m 4 ls []) rfl ?_
  refine lv_aload_n hx hb d_Goal_init_4 rfl (lv_at hl 0 rfl) ?_
  refine lv_sipush (v := 128) hx hb d_Goal_init_5 (by decide) ?_
  refine va_newa (D := (dC, dI)) (atype := .int) (a0 := (128, .inl (fun _ => 0))) (ty := .int) (N' := 128) hx hb (hts (.arrayClass .int) (List.mem_of_getElem? (i := 4) rfl)) rfl hK hP hD hS hA (fun cA => rfl) (by decide) (by decide) (Nat.le_of_ble_eq_true rfl) (Nat.le_of_ble_eq_true rfl) (Nat.le_of_ble_eq_true rfl) d_Goal_init_8 (fun q1 cA2 H hK hP hD hS => ?_)
  have hP : va_P (dC, dI) classes [(h0, .inr (6, [.null, .int 0])), (q1, .inl (cA2, 128, .inl (fun _ => 0)))] H := hP
  have hK : va_K (dC, dI) classes [(cA2, .int)] s := hK
  have hD : va_D A [(h0, .inr (6, [.null, .int 0])), (q1, .inl (cA2, 128, .inl (fun _ => 0)))] := hD
  refine W.widen (k := 1) (n := 128) (by omega) (by omega) ?_
  refine va_putF (D := (dC, dI)) (ci := 6) (v := .ref q1) (ty := .array .int) (C := R_GO) (T := T_GO) (N := 2) hx hb hts in_Goal_init_GO t_GO t_GO_ok n_GO hown hK hP hD hS 0 rfl rfl 0 (by decide) (hts (.fieldLink "Leastcode$Goal" 9 "Leastcode$Goal" "wanted" "[I") (List.mem_of_getElem? (i := 7) rfl)) (fun _ h9 => h9) rfl hin rfl (by decide +kernel) rfl rfl (Nat.le_of_ble_eq_true rfl) d_Goal_init_10 (fun H locs hP hD hS => ?_)
  have hP : va_P (dC, dI) classes [(h0, .inr (6, [.ref q1, .int 0])), (q1, .inl (cA2, 128, .inl (fun _ => 0)))] H := hP
  have hD : va_D A [(h0, .inr (6, [.ref q1, .int 0])), (q1, .inl (cA2, 128, .inl (fun _ => 0)))] := hD
  have hP9 : va_P (dC, dI) classes [(h0, .inr (6, [.ref q1, .int 0]))] H := hP.sub (ws' := [(h0, .inr (6, [.ref q1, .int 0]))]) [0] rfl
  have hD9 := hD.sub (ws' := [(h0, .inr (6, [.ref q1, .int 0]))]) [0] (by decide) rfl
  have hK9 := hK.sub (tys' := []) [] rfl
  refine W.widen (k := 1) (n := 128) (by omega) (by omega) ?_
  exact W.vret hx hb hr (fun t ht hW => ⟨⟨(), rfl, trivial, ⟨q1, ⟨by rw [ht]; exact hP9, va_K.moved hW.alike hK9, hD9⟩⟩⟩, hS.F ht⟩) hS.2.2 d_Goal_init_13

abbrev rm_Rule_init : Room := { frames := 2, cells := 8, slots := 40, locals := 32 }
abbrev b_Rule_init : ByteArray := prog_8_method_1_code
def y_Rule_init : MethodName := ⟨"Leastcode$Rule", "<init>", "()V"⟩
def w_Rule_init : List Cond := [.code ⟨"Leastcode$Rule", "<init>", "()V"⟩ prog_8_method_1_code 1 none, .methodLink "Leastcode$Rule" 1 ⟨"java/lang/Object", "<init>", "()V"⟩, .instanceMethod ⟨"java/lang/Object", "<init>", "()V"⟩, .code ⟨"java/lang/Object", "<init>", "()V"⟩ object_method_1_code 1 none, .laysFinal "Leastcode$Code" "Leastcode$Code" "numbers" "[I", .lays "Leastcode$Code" "Leastcode$Code" "length" "I", .classLink "Leastcode$Rule" 7 "Leastcode$Code", .instantiable "Leastcode$Code" 2, .initialized "Leastcode$Code", .code ⟨"Leastcode$Code", "<init>", "()V"⟩ prog_2_method_1_code 1 none, .methodLink "Leastcode$Code" 3 ⟨"java/lang/Object", "<init>", "()V"⟩, .arrayClass .int, .fieldLink "Leastcode$Code" 9 "Leastcode$Code" "numbers" "[I", .instanceMethod ⟨"Leastcode$Code", "<init>", "()V"⟩, .laysFinal "Leastcode$Rule" "Leastcode$Rule" "left" "LLeastcode$Code;", .laysFinal "Leastcode$Rule" "Leastcode$Rule" "right" "LLeastcode$Code;", .laysFinal "Leastcode$Rule" "Leastcode$Rule" "mirroredLeft" "LLeastcode$Code;", .laysFinal "Leastcode$Rule" "Leastcode$Rule" "mirroredRight" "LLeastcode$Code;", .lays "Leastcode$Rule" "Leastcode$Rule" "kept" "I", .lays "Leastcode$Rule" "Leastcode$Rule" "mirroredKept" "I", .lays "Leastcode$Rule" "Leastcode$Rule" "taken" "I", .fieldLink "Leastcode$Rule" 10 "Leastcode$Rule" "left" "LLeastcode$Code;", .fieldLink "Leastcode$Rule" 16 "Leastcode$Rule" "right" "LLeastcode$Code;", .fieldLink "Leastcode$Rule" 19 "Leastcode$Rule" "mirroredLeft" "LLeastcode$Code;", .fieldLink "Leastcode$Rule" 22 "Leastcode$Rule" "mirroredRight" "LLeastcode$Code;"]
theorem d_Rule_init_0 : decode b_Rule_init 0 = .ok (.aload_n 0, 1) := by decide +kernel
theorem d_Rule_init_1 : decode b_Rule_init 1 = .ok (.invokespecial 1, 3) := by decide +kernel
theorem d_Rule_init_4 : decode b_Rule_init 4 = .ok (.aload_n 0, 1) := by decide +kernel
theorem d_Rule_init_5 : decode b_Rule_init 5 = .ok (.new 7, 3) := by decide +kernel
theorem d_Rule_init_8 : decode b_Rule_init 8 = .ok (.dup, 1) := by decide +kernel
theorem d_Rule_init_9 : decode b_Rule_init 9 = .ok (.invokespecial 9, 3) := by decide +kernel
theorem d_Rule_init_12 : decode b_Rule_init 12 = .ok (.putfield 10, 3) := by decide +kernel
theorem d_Rule_init_15 : decode b_Rule_init 15 = .ok (.aload_n 0, 1) := by decide +kernel
theorem d_Rule_init_16 : decode b_Rule_init 16 = .ok (.new 7, 3) := by decide +kernel
theorem d_Rule_init_19 : decode b_Rule_init 19 = .ok (.dup, 1) := by decide +kernel
theorem d_Rule_init_20 : decode b_Rule_init 20 = .ok (.invokespecial 9, 3) := by decide +kernel
theorem d_Rule_init_23 : decode b_Rule_init 23 = .ok (.putfield 16, 3) := by decide +kernel
theorem d_Rule_init_26 : decode b_Rule_init 26 = .ok (.aload_n 0, 1) := by decide +kernel
theorem d_Rule_init_27 : decode b_Rule_init 27 = .ok (.new 7, 3) := by decide +kernel
theorem d_Rule_init_30 : decode b_Rule_init 30 = .ok (.dup, 1) := by decide +kernel
theorem d_Rule_init_31 : decode b_Rule_init 31 = .ok (.invokespecial 9, 3) := by decide +kernel
theorem d_Rule_init_34 : decode b_Rule_init 34 = .ok (.putfield 19, 3) := by decide +kernel
theorem d_Rule_init_37 : decode b_Rule_init 37 = .ok (.aload_n 0, 1) := by decide +kernel
theorem d_Rule_init_38 : decode b_Rule_init 38 = .ok (.new 7, 3) := by decide +kernel
theorem d_Rule_init_41 : decode b_Rule_init 41 = .ok (.dup, 1) := by decide +kernel
theorem d_Rule_init_42 : decode b_Rule_init 42 = .ok (.invokespecial 9, 3) := by decide +kernel
theorem d_Rule_init_45 : decode b_Rule_init 45 = .ok (.putfield 22, 3) := by decide +kernel
theorem d_Rule_init_48 : decode b_Rule_init 48 = .ok (.return_, 1) := by decide +kernel
theorem in_Rule_init_CO : ∀ v ∈ u_ws R_CO T_CO 2, v ∈ w_Rule_init := by decide +kernel
theorem in_Rule_init_RU : ∀ v ∈ u_ws R_RU T_RU 7, v ∈ w_Rule_init := by decide +kernel
set_option maxRecDepth 20000 in
theorem g_Rule_init_9 : GoodIn w_Rule_init (w_Code_init) := goodIn_r _ [9, 10, 2, 3, 11, 4, 5, 12] rfl (by decide +kernel)
set_option maxRecDepth 20000 in
theorem g_Rule_init_20 : GoodIn w_Rule_init (w_Code_init) := goodIn_r _ [9, 10, 2, 3, 11, 4, 5, 12] rfl (by decide +kernel)
set_option maxRecDepth 20000 in
theorem g_Rule_init_31 : GoodIn w_Rule_init (w_Code_init) := goodIn_r _ [9, 10, 2, 3, 11, 4, 5, 12] rfl (by decide +kernel)
set_option maxRecDepth 20000 in
theorem g_Rule_init_42 : GoodIn w_Rule_init (w_Code_init) := goodIn_r _ [9, 10, 2, 3, 11, 4, 5, 12] rfl (by decide +kernel)
set_option maxHeartbeats 4000000 in
set_option maxRecDepth 100000 in
theorem c_Rule_init (l : Launch) (dC : Nat → ClassId) (dI : Nat → Nat → Nat) (h0 : Nat) (sz : Nat) : Met l y_Rule_init w_Rule_init rm_Rule_init (va_Pc [.ref h0] (fun U => U.heap.size = sz ∧ va_P (dC, dI) classes [(h0, .inr (7, [.null, .null, .null, .null, .int 0, .int 0, .int 0]))] U.heap ∧ va_K (dC, dI) classes [] U ∧ va_D (fun _ => True) [(h0, .inr (7, [.null, .null, .null, .null, .int 0, .int 0, .int 0]))] ∧ va_Nw (.methodLinkNest "Leastcode$Rule" 9 ⟨"Leastcode$Code", "<init>", "()V"⟩ "Leastcode") U)) (va_Qv (fun (_ : Unit) => True) (fun _ t => ∃ qa : Nat, ∃ qb : Nat, ∃ qc : Nat, ∃ qd : Nat, va_P (dC, dI) classes [(h0, .inr (7, [.ref qa, .ref qb, .ref qc, .ref qd, .int 0, .int 0, .int 0]))] t.heap ∧ va_K (dC, dI) classes [] t ∧ va_D (va_A [(h0, .inr (7, [.null, .null, .null, .null, .int 0, .int 0, .int 0]))] sz) [(h0, .inr (7, [.ref qa, .ref qb, .ref qc, .ref qd, .int 0, .int 0, .int 0]))]) (va_A [(h0, .inr (7, [.null, .null, .null, .null, .int 0, .int 0, .int 0]))] sz)) 8 40 (va_A [(h0, .inr (7, [.null, .null, .null, .null, .int 0, .int 0, .int 0]))] sz) := by
  refine Met.ofW (cc := b_Rule_init) (maxL := 1) (ret := none) (by decide) rfl ?_
  intro p e s m args below meth c s₁ B hml hv
  obtain ⟨rfl, hsz, hP, hK, hD0, hE0⟩ := hv
  have hx := B.exec
  have hb := B.bytes
  have hr := B.returns
  have hts := atoms_spec (ws := w_Rule_init) B.pre
  have hown : s.vm.findClass "Leastcode$Rule" = some m.cls := findClass_of_methodNamed B.named
  have hlocks := B.notSynchronized
  have hin : meth.name = "<init>" := (name_of_methodNamed B.named B.method).1
  subst hsz
  have hD := hD0.self (sz := s.heap.size)
  generalize hAe : va_A [(h0, .inr (7, [.null, .null, .null, .null, .int 0, .int 0, .int 0]))] s.heap.size = A at hD hE0 ⊢
  have hA : ∀ q : Nat, s.heap.size ≤ q → A q := fun q h => by rw [← hAe]; exact Or.inr h
  have hS : va_S A s.heap s.heap [] := va_S.rf
  have hP : va_P (dC, dI) classes [(h0, .inr (7, [.null, .null, .null, .null, .int 0, .int 0, .int 0]))] s.heap := hP
  have hl := lv_entry ([.ref h0]) (n := 1) (Nat.le_of_ble_eq_true rfl)
  rw [lg_entry_eq]
  generalize (lg_sl ([.ref h0]) ++ List.replicate (1 - (lg_sl ([.ref h0])).length) Slot.unset).toArray = ls at hl ⊢
  have hl : lv_has ls 1 [(0, .ref h0)] := hl
  refine lv_aload_n hx hb d_Rule_init_0 rfl (lv_at hl 0 rfl) ?_
  refine W.objInit hx hb hown (hts (.methodLink "Leastcode$Rule" 1 ⟨"java/lang/Object", "<init>", "()V"⟩) (List.mem_of_getElem? (i := 1) rfl)) (hts (.instanceMethod ⟨"java/lang/Object", "<init>", "()V"⟩) (List.mem_of_getElem? (i := 2) rfl)) (hts (.code ⟨"java/lang/Object", "<init>", "()V"⟩ object_method_1_code 1 none) (List.mem_of_getElem? (i := 3) rfl)) rfl (by rw [hml]; exact hl.1) rfl d_Rule_init_1 (Nat.le_of_ble_eq_true rfl) (Nat.le_of_ble_eq_true rfl) ?_
  refine W.eq (g2 := F0 m 4 ls []) rfl ?_
  refine lv_aload_n hx hb d_Rule_init_4 rfl (lv_at hl 0 rfl) ?_
  refine va_new (D := (dC, dI)) (ci := 2) (fs := [.null, .int 0]) (C := R_CO) (T := T_CO) (N := 2) hx hb hts in_Rule_init_CO t_CO t_CO_ok hown (hts (.classLink "Leastcode$Rule" 7 "Leastcode$Code") (List.mem_of_getElem? (i := 6) rfl)) (hts (.instantiable "Leastcode$Code" 2) (List.mem_of_getElem? (i := 7) rfl)) (hts (.initialized "Leastcode$Code") (List.mem_of_getElem? (i := 8) rfl)) hK hP hD hS hA rfl (fun j hj => by rcases (show j = 0 ∨ j = 1 by omega) with rfl | rfl <;> rfl) (Nat.le_of_ble_eq_true rfl) (Nat.le_of_ble_eq_true rfl) d_Rule_init_5 (fun q1 H hP hD hS => ?_)
  have hP : va_P (dC, dI) classes [(h0, .inr (7, [.null, .null, .null, .null, .int 0, .int 0, .int 0])), (q1, .inr (2, [.null, .int 0]))] H := hP
  have hD : va_D A [(h0, .inr (7, [.null, .null, .null, .null, .int 0, .int 0, .int 0])), (q1, .inr (2, [.null, .int 0]))] := hD
  refine W.widen (k := 1) (n := 2) (by omega) (by omega) ?_
  refine lv_dup hx hb d_Rule_init_8 rfl ?_
  have hPc : va_P (dC, dI) classes [(q1, .inr (2, [.null, .int 0]))] _ := hP.sub (ws' := [(q1, .inr (2, [.null, .int 0]))]) [1] rfl
  have hKc : va_K (dC, dI) classes [] s := hK.sub (tys' := []) [] rfl
  have hDc : va_D _ [(q1, .inr (2, [.null, .int 0]))] := hD.sub (ws' := [(q1, .inr (2, [.null, .int 0]))]) [1] (by decide) rfl
  have hFc := va_free (wc := [(q1, .inr (2, [.null, .int 0]))]) hD hS hA [1] rfl
  refine va_callv (va_runIN (As := []) (rest := [.ref q1, .ref h0]) ⟨hx, hb, hml, hown, hts⟩ (c_Code_init l dC dI q1 H.size) ⟨va_cnB 0 hts g_Rule_init_9 rfl rfl rfl hE0 (hts (.initialized "Leastcode$Code") (List.mem_of_getElem? (i := 8) rfl)) (by decide +kernel) ⟨Nat.le_of_ble_eq_true rfl, Nat.le_of_ble_eq_true rfl⟩, rfl, (hts (.instanceMethod ⟨"Leastcode$Code", "<init>", "()V"⟩) (List.mem_of_getElem? (i := 13) rfl))⟩ ⟨fun a U g mk z => by obtain ⟨z0, z1, zP, zK, zD⟩ := z; exact ⟨z0, z1, zP, va_K.moved (u := U) (U := U.calling g mk a) (Vm.Alike.refl U.vm) zK, zD⟩, fun U hU hW => ⟨rfl, by rw [hU], by rw [hU]; exact hPc, va_K.moved hW.alike hKc, hDc.weaken (fun _ _ _ _ => trivial)⟩⟩ rfl rfl hl.1 rfl (lv_room (Nat.le_of_ble_eq_true rfl)) d_Rule_init_9 ⟨(Nat.le_of_ble_eq_true rfl), (Nat.le_of_ble_eq_true rfl)⟩) hS (fun q _ h => hFc q h) hFc (fun u t H1 locs ht hvm hr2 hB hz1 hk1 hS => ?_)
  obtain ⟨q3, cA4, hP1, hK1, hD1⟩ := hB
  rw [ht] at hP1
  have hK1 := va_K.moved hvm.symm hK1
  obtain ⟨hP, hD⟩ := va_join (wr := [(h0, .inr (7, [.null, .null, .null, .null, .int 0, .int 0, .int 0]))]) (w1 := [(q1, .inr (2, [.ref q3, .int 0])), (q3, .inl (cA4, 8, .inl (fun _ => 0)))]) hP hD [1] [0] rfl rfl (by decide) (by decide) hk1 hFc hP1 hD1
  have hK := hK.app (hK1.sub (tys' := [(cA4, .int)]) [0] rfl)
  have hK : va_K (dC, dI) classes [(cA4, .int)] s := hK
  clear hPc hDc hKc hFc hP1 hD1 hK1 hk1
  generalize H1 = H at hP hS ⊢
  have hP : va_P (dC, dI) classes [(h0, .inr (7, [.null, .null, .null, .null, .int 0, .int 0, .int 0])), (q1, .inr (2, [.ref q3, .int 0])), (q3, .inl (cA4, 8, .inl (fun _ => 0)))] H := hP
  have hD : va_D A [(h0, .inr (7, [.null, .null, .null, .null, .int 0, .int 0, .int 0])), (q1, .inr (2, [.ref q3, .int 0])), (q3, .inl (cA4, 8, .inl (fun _ => 0)))] := hD
  refine W.widen (k := 2) (n := 10) (by omega) (by omega) ?_
  refine va_putF (D := (dC, dI)) (ci := 7) (v := .ref q1) (ty := .object "Leastcode$Code") (C := R_RU) (T := T_RU) (N := 7) hx hb hts in_Rule_init_RU t_RU t_RU_ok n_RU hown hK hP hD hS 0 rfl rfl 0 (by decide) (hts (.fieldLink "Leastcode$Rule" 10 "Leastcode$Rule" "left" "LLeastcode$Code;") (List.mem_of_getElem? (i := 21) rfl)) (fun _ h9 => h9) rfl hin rfl (by decide +kernel) rfl rfl (Nat.le_of_ble_eq_true rfl) d_Rule_init_12 (fun H locs hP hD hS => ?_)
  have hP : va_P (dC, dI) classes [(h0, .inr (7, [.ref q1, .null, .null, .null, .int 0, .int 0, .int 0])), (q1, .inr (2, [.ref q3, .int 0])), (q3, .inl (cA4, 8, .inl (fun _ => 0)))] H := hP
  have hD : va_D A [(h0, .inr (7, [.ref q1, .null, .null, .null, .int 0, .int 0, .int 0])), (q1, .inr (2, [.ref q3, .int 0])), (q3, .inl (cA4, 8, .inl (fun _ => 0)))] := hD
  refine lv_aload_n hx hb d_Rule_init_15 rfl (lv_at hl 0 rfl) ?_
  refine va_new (D := (dC, dI)) (ci := 2) (fs := [.null, .int 0]) (C := R_CO) (T := T_CO) (N := 2) hx hb hts in_Rule_init_CO t_CO t_CO_ok hown (hts (.classLink "Leastcode$Rule" 7 "Leastcode$Code") (List.mem_of_getElem? (i := 6) rfl)) (hts (.instantiable "Leastcode$Code" 2) (List.mem_of_getElem? (i := 7) rfl)) (hts (.initialized "Leastcode$Code") (List.mem_of_getElem? (i := 8) rfl)) hK hP hD hS hA rfl (fun j hj => by rcases (show j = 0 ∨ j = 1 by omega) with rfl | rfl <;> rfl) (Nat.le_of_ble_eq_true rfl) (Nat.le_of_ble_eq_true rfl) d_Rule_init_16 (fun q5 H hP hD hS => ?_)
  have hP : va_P (dC, dI) classes [(h0, .inr (7, [.ref q1, .null, .null, .null, .int 0, .int 0, .int 0])), (q1, .inr (2, [.ref q3, .int 0])), (q3, .inl (cA4, 8, .inl (fun _ => 0))), (q5, .inr (2, [.null, .int 0]))] H := hP
  have hD : va_D A [(h0, .inr (7, [.ref q1, .null, .null, .null, .int 0, .int 0, .int 0])), (q1, .inr (2, [.ref q3, .int 0])), (q3, .inl (cA4, 8, .inl (fun _ => 0))), (q5, .inr (2, [.null, .int 0]))] := hD
  refine W.widen (k := 3) (n := 12) (by omega) (by omega) ?_
  refine lv_dup hx hb d_Rule_init_19 rfl ?_
  have hPc : va_P (dC, dI) classes [(q5, .inr (2, [.null, .int 0]))] _ := hP.sub (ws' := [(q5, .inr (2, [.null, .int 0]))]) [3] rfl
  have hKc : va_K (dC, dI) classes [] s := hK.sub (tys' := []) [] rfl
  have hDc : va_D _ [(q5, .inr (2, [.null, .int 0]))] := hD.sub (ws' := [(q5, .inr (2, [.null, .int 0]))]) [3] (by decide) rfl
  have hFc := va_free (wc := [(q5, .inr (2, [.null, .int 0]))]) hD hS hA [3] rfl
  refine va_callv (va_runIN (As := []) (rest := [.ref q5, .ref h0]) ⟨hx, hb, hml, hown, hts⟩ (c_Code_init l dC dI q5 H.size) ⟨va_cnB 0 hts g_Rule_init_20 rfl rfl rfl hE0 (hts (.initialized "Leastcode$Code") (List.mem_of_getElem? (i := 8) rfl)) (by decide +kernel) ⟨Nat.le_of_ble_eq_true rfl, Nat.le_of_ble_eq_true rfl⟩, rfl, (hts (.instanceMethod ⟨"Leastcode$Code", "<init>", "()V"⟩) (List.mem_of_getElem? (i := 13) rfl))⟩ ⟨fun a U g mk z => by obtain ⟨z0, z1, zP, zK, zD⟩ := z; exact ⟨z0, z1, zP, va_K.moved (u := U) (U := U.calling g mk a) (Vm.Alike.refl U.vm) zK, zD⟩, fun U hU hW => ⟨rfl, by rw [hU], by rw [hU]; exact hPc, va_K.moved hW.alike hKc, hDc.weaken (fun _ _ _ _ => trivial)⟩⟩ rfl rfl hl.1 rfl (lv_room (Nat.le_of_ble_eq_true rfl)) d_Rule_init_20 ⟨(Nat.le_of_ble_eq_true rfl), (Nat.le_of_ble_eq_true rfl)⟩) hS (fun q _ h => hFc q h) hFc (fun u t H1 locs ht hvm hr6 hB hz1 hk1 hS => ?_)
  obtain ⟨q7, cA8, hP1, hK1, hD1⟩ := hB
  rw [ht] at hP1
  have hK1 := va_K.moved hvm.symm hK1
  obtain ⟨hP, hD⟩ := va_join (wr := [(h0, .inr (7, [.ref q1, .null, .null, .null, .int 0, .int 0, .int 0])), (q1, .inr (2, [.ref q3, .int 0])), (q3, .inl (cA4, 8, .inl (fun _ => 0)))]) (w1 := [(q5, .inr (2, [.ref q7, .int 0])), (q7, .inl (cA8, 8, .inl (fun _ => 0)))]) hP hD [3] [0, 1, 2] rfl rfl (by decide) (by decide) hk1 hFc hP1 hD1
  have hK := hK.app (hK1.sub (tys' := [(cA8, .int)]) [0] rfl)
  have hK : va_K (dC, dI) classes [(cA4, .int), (cA8, .int)] s := hK
  clear hPc hDc hKc hFc hP1 hD1 hK1 hk1
  generalize H1 = H at hP hS ⊢
  have hP : va_P (dC, dI) classes [(h0, .inr (7, [.ref q1, .null, .null, .null, .int 0, .int 0, .int 0])), (q1, .inr (2, [.ref q3, .int 0])), (q3, .inl (cA4, 8, .inl (fun _ => 0))), (q5, .inr (2, [.ref q7, .int 0])), (q7, .inl (cA8, 8, .inl (fun _ => 0)))] H := hP
  have hD : va_D A [(h0, .inr (7, [.ref q1, .null, .null, .null, .int 0, .int 0, .int 0])), (q1, .inr (2, [.ref q3, .int 0])), (q3, .inl (cA4, 8, .inl (fun _ => 0))), (q5, .inr (2, [.ref q7, .int 0])), (q7, .inl (cA8, 8, .inl (fun _ => 0)))] := hD
  refine W.widen (k := 4) (n := 20) (by omega) (by omega) ?_
  refine va_putF (D := (dC, dI)) (ci := 7) (v := .ref q5) (ty := .object "Leastcode$Code") (C := R_RU) (T := T_RU) (N := 7) hx hb hts in_Rule_init_RU t_RU t_RU_ok n_RU hown hK hP hD hS 0 rfl rfl 1 (by decide) (hts (.fieldLink "Leastcode$Rule" 16 "Leastcode$Rule" "right" "LLeastcode$Code;") (List.mem_of_getElem? (i := 22) rfl)) (fun _ h9 => h9) rfl hin rfl (by decide +kernel) rfl rfl (Nat.le_of_ble_eq_true rfl) d_Rule_init_23 (fun H locs hP hD hS => ?_)
  have hP : va_P (dC, dI) classes [(h0, .inr (7, [.ref q1, .ref q5, .null, .null, .int 0, .int 0, .int 0])), (q1, .inr (2, [.ref q3, .int 0])), (q3, .inl (cA4, 8, .inl (fun _ => 0))), (q5, .inr (2, [.ref q7, .int 0])), (q7, .inl (cA8, 8, .inl (fun _ => 0)))] H := hP
  have hD : va_D A [(h0, .inr (7, [.ref q1, .ref q5, .null, .null, .int 0, .int 0, .int 0])), (q1, .inr (2, [.ref q3, .int 0])), (q3, .inl (cA4, 8, .inl (fun _ => 0))), (q5, .inr (2, [.ref q7, .int 0])), (q7, .inl (cA8, 8, .inl (fun _ => 0)))] := hD
  refine lv_aload_n hx hb d_Rule_init_26 rfl (lv_at hl 0 rfl) ?_
  refine va_new (D := (dC, dI)) (ci := 2) (fs := [.null, .int 0]) (C := R_CO) (T := T_CO) (N := 2) hx hb hts in_Rule_init_CO t_CO t_CO_ok hown (hts (.classLink "Leastcode$Rule" 7 "Leastcode$Code") (List.mem_of_getElem? (i := 6) rfl)) (hts (.instantiable "Leastcode$Code" 2) (List.mem_of_getElem? (i := 7) rfl)) (hts (.initialized "Leastcode$Code") (List.mem_of_getElem? (i := 8) rfl)) hK hP hD hS hA rfl (fun j hj => by rcases (show j = 0 ∨ j = 1 by omega) with rfl | rfl <;> rfl) (Nat.le_of_ble_eq_true rfl) (Nat.le_of_ble_eq_true rfl) d_Rule_init_27 (fun q9 H hP hD hS => ?_)
  have hP : va_P (dC, dI) classes [(h0, .inr (7, [.ref q1, .ref q5, .null, .null, .int 0, .int 0, .int 0])), (q1, .inr (2, [.ref q3, .int 0])), (q3, .inl (cA4, 8, .inl (fun _ => 0))), (q5, .inr (2, [.ref q7, .int 0])), (q7, .inl (cA8, 8, .inl (fun _ => 0))), (q9, .inr (2, [.null, .int 0]))] H := hP
  have hD : va_D A [(h0, .inr (7, [.ref q1, .ref q5, .null, .null, .int 0, .int 0, .int 0])), (q1, .inr (2, [.ref q3, .int 0])), (q3, .inl (cA4, 8, .inl (fun _ => 0))), (q5, .inr (2, [.ref q7, .int 0])), (q7, .inl (cA8, 8, .inl (fun _ => 0))), (q9, .inr (2, [.null, .int 0]))] := hD
  refine W.widen (k := 5) (n := 22) (by omega) (by omega) ?_
  refine lv_dup hx hb d_Rule_init_30 rfl ?_
  have hPc : va_P (dC, dI) classes [(q9, .inr (2, [.null, .int 0]))] _ := hP.sub (ws' := [(q9, .inr (2, [.null, .int 0]))]) [5] rfl
  have hKc : va_K (dC, dI) classes [] s := hK.sub (tys' := []) [] rfl
  have hDc : va_D _ [(q9, .inr (2, [.null, .int 0]))] := hD.sub (ws' := [(q9, .inr (2, [.null, .int 0]))]) [5] (by decide) rfl
  have hFc := va_free (wc := [(q9, .inr (2, [.null, .int 0]))]) hD hS hA [5] rfl
  refine va_callv (va_runIN (As := []) (rest := [.ref q9, .ref h0]) ⟨hx, hb, hml, hown, hts⟩ (c_Code_init l dC dI q9 H.size) ⟨va_cnB 0 hts g_Rule_init_31 rfl rfl rfl hE0 (hts (.initialized "Leastcode$Code") (List.mem_of_getElem? (i := 8) rfl)) (by decide +kernel) ⟨Nat.le_of_ble_eq_true rfl, Nat.le_of_ble_eq_true rfl⟩, rfl, (hts (.instanceMethod ⟨"Leastcode$Code", "<init>", "()V"⟩) (List.mem_of_getElem? (i := 13) rfl))⟩ ⟨fun a U g mk z => by obtain ⟨z0, z1, zP, zK, zD⟩ := z; exact ⟨z0, z1, zP, va_K.moved (u := U) (U := U.calling g mk a) (Vm.Alike.refl U.vm) zK, zD⟩, fun U hU hW => ⟨rfl, by rw [hU], by rw [hU]; exact hPc, va_K.moved hW.alike hKc, hDc.weaken (fun _ _ _ _ => trivial)⟩⟩ rfl rfl hl.1 rfl (lv_room (Nat.le_of_ble_eq_true rfl)) d_Rule_init_31 ⟨(Nat.le_of_ble_eq_true rfl), (Nat.le_of_ble_eq_true rfl)⟩) hS (fun q _ h => hFc q h) hFc (fun u t H1 locs ht hvm hr10 hB hz1 hk1 hS => ?_)
  obtain ⟨q11, cA12, hP1, hK1, hD1⟩ := hB
  rw [ht] at hP1
  have hK1 := va_K.moved hvm.symm hK1
  obtain ⟨hP, hD⟩ := va_join (wr := [(h0, .inr (7, [.ref q1, .ref q5, .null, .null, .int 0, .int 0, .int 0])), (q1, .inr (2, [.ref q3, .int 0])), (q3, .inl (cA4, 8, .inl (fun _ => 0))), (q5, .inr (2, [.ref q7, .int 0])), (q7, .inl (cA8, 8, .inl (fun _ => 0)))]) (w1 := [(q9, .inr (2, [.ref q11, .int 0])), (q11, .inl (cA12, 8, .inl (fun _ => 0)))]) hP hD [5] [0, 1, 2, 3, 4] rfl rfl (by decide) (by decide) hk1 hFc hP1 hD1
  have hK := hK.app (hK1.sub (tys' := [(cA12, .int)]) [0] rfl)
  have hK : va_K (dC, dI) classes [(cA4, .int), (cA8, .int), (cA12, .int)] s := hK
  clear hPc hDc hKc hFc hP1 hD1 hK1 hk1
  generalize H1 = H at hP hS ⊢
  have hP : va_P (dC, dI) classes [(h0, .inr (7, [.ref q1, .ref q5, .null, .null, .int 0, .int 0, .int 0])), (q1, .inr (2, [.ref q3, .int 0])), (q3, .inl (cA4, 8, .inl (fun _ => 0))), (q5, .inr (2, [.ref q7, .int 0])), (q7, .inl (cA8, 8, .inl (fun _ => 0))), (q9, .inr (2, [.ref q11, .int 0])), (q11, .inl (cA12, 8, .inl (fun _ => 0)))] H := hP
  have hD : va_D A [(h0, .inr (7, [.ref q1, .ref q5, .null, .null, .int 0, .int 0, .int 0])), (q1, .inr (2, [.ref q3, .int 0])), (q3, .inl (cA4, 8, .inl (fun _ => 0))), (q5, .inr (2, [.ref q7, .int 0])), (q7, .inl (cA8, 8, .inl (fun _ => 0))), (q9, .inr (2, [.ref q11, .int 0])), (q11, .inl (cA12, 8, .inl (fun _ => 0)))] := hD
  refine W.widen (k := 6) (n := 30) (by omega) (by omega) ?_
  refine va_putF (D := (dC, dI)) (ci := 7) (v := .ref q9) (ty := .object "Leastcode$Code") (C := R_RU) (T := T_RU) (N := 7) hx hb hts in_Rule_init_RU t_RU t_RU_ok n_RU hown hK hP hD hS 0 rfl rfl 2 (by decide) (hts (.fieldLink "Leastcode$Rule" 19 "Leastcode$Rule" "mirroredLeft" "LLeastcode$Code;") (List.mem_of_getElem? (i := 23) rfl)) (fun _ h9 => h9) rfl hin rfl (by decide +kernel) rfl rfl (Nat.le_of_ble_eq_true rfl) d_Rule_init_34 (fun H locs hP hD hS => ?_)
  have hP : va_P (dC, dI) classes [(h0, .inr (7, [.ref q1, .ref q5, .ref q9, .null, .int 0, .int 0, .int 0])), (q1, .inr (2, [.ref q3, .int 0])), (q3, .inl (cA4, 8, .inl (fun _ => 0))), (q5, .inr (2, [.ref q7, .int 0])), (q7, .inl (cA8, 8, .inl (fun _ => 0))), (q9, .inr (2, [.ref q11, .int 0])), (q11, .inl (cA12, 8, .inl (fun _ => 0)))] H := hP
  have hD : va_D A [(h0, .inr (7, [.ref q1, .ref q5, .ref q9, .null, .int 0, .int 0, .int 0])), (q1, .inr (2, [.ref q3, .int 0])), (q3, .inl (cA4, 8, .inl (fun _ => 0))), (q5, .inr (2, [.ref q7, .int 0])), (q7, .inl (cA8, 8, .inl (fun _ => 0))), (q9, .inr (2, [.ref q11, .int 0])), (q11, .inl (cA12, 8, .inl (fun _ => 0)))] := hD
  refine lv_aload_n hx hb d_Rule_init_37 rfl (lv_at hl 0 rfl) ?_
  refine va_new (D := (dC, dI)) (ci := 2) (fs := [.null, .int 0]) (C := R_CO) (T := T_CO) (N := 2) hx hb hts in_Rule_init_CO t_CO t_CO_ok hown (hts (.classLink "Leastcode$Rule" 7 "Leastcode$Code") (List.mem_of_getElem? (i := 6) rfl)) (hts (.instantiable "Leastcode$Code" 2) (List.mem_of_getElem? (i := 7) rfl)) (hts (.initialized "Leastcode$Code") (List.mem_of_getElem? (i := 8) rfl)) hK hP hD hS hA rfl (fun j hj => by rcases (show j = 0 ∨ j = 1 by omega) with rfl | rfl <;> rfl) (Nat.le_of_ble_eq_true rfl) (Nat.le_of_ble_eq_true rfl) d_Rule_init_38 (fun q13 H hP hD hS => ?_)
  have hP : va_P (dC, dI) classes [(h0, .inr (7, [.ref q1, .ref q5, .ref q9, .null, .int 0, .int 0, .int 0])), (q1, .inr (2, [.ref q3, .int 0])), (q3, .inl (cA4, 8, .inl (fun _ => 0))), (q5, .inr (2, [.ref q7, .int 0])), (q7, .inl (cA8, 8, .inl (fun _ => 0))), (q9, .inr (2, [.ref q11, .int 0])), (q11, .inl (cA12, 8, .inl (fun _ => 0))), (q13, .inr (2, [.null, .int 0]))] H := hP
  have hD : va_D A [(h0, .inr (7, [.ref q1, .ref q5, .ref q9, .null, .int 0, .int 0, .int 0])), (q1, .inr (2, [.ref q3, .int 0])), (q3, .inl (cA4, 8, .inl (fun _ => 0))), (q5, .inr (2, [.ref q7, .int 0])), (q7, .inl (cA8, 8, .inl (fun _ => 0))), (q9, .inr (2, [.ref q11, .int 0])), (q11, .inl (cA12, 8, .inl (fun _ => 0))), (q13, .inr (2, [.null, .int 0]))] := hD
  refine W.widen (k := 7) (n := 32) (by omega) (by omega) ?_
  refine lv_dup hx hb d_Rule_init_41 rfl ?_
  have hPc : va_P (dC, dI) classes [(q13, .inr (2, [.null, .int 0]))] _ := hP.sub (ws' := [(q13, .inr (2, [.null, .int 0]))]) [7] rfl
  have hKc : va_K (dC, dI) classes [] s := hK.sub (tys' := []) [] rfl
  have hDc : va_D _ [(q13, .inr (2, [.null, .int 0]))] := hD.sub (ws' := [(q13, .inr (2, [.null, .int 0]))]) [7] (by decide) rfl
  have hFc := va_free (wc := [(q13, .inr (2, [.null, .int 0]))]) hD hS hA [7] rfl
  refine va_callv (va_runIN (As := []) (rest := [.ref q13, .ref h0]) ⟨hx, hb, hml, hown, hts⟩ (c_Code_init l dC dI q13 H.size) ⟨va_cnB 0 hts g_Rule_init_42 rfl rfl rfl hE0 (hts (.initialized "Leastcode$Code") (List.mem_of_getElem? (i := 8) rfl)) (by decide +kernel) ⟨Nat.le_of_ble_eq_true rfl, Nat.le_of_ble_eq_true rfl⟩, rfl, (hts (.instanceMethod ⟨"Leastcode$Code", "<init>", "()V"⟩) (List.mem_of_getElem? (i := 13) rfl))⟩ ⟨fun a U g mk z => by obtain ⟨z0, z1, zP, zK, zD⟩ := z; exact ⟨z0, z1, zP, va_K.moved (u := U) (U := U.calling g mk a) (Vm.Alike.refl U.vm) zK, zD⟩, fun U hU hW => ⟨rfl, by rw [hU], by rw [hU]; exact hPc, va_K.moved hW.alike hKc, hDc.weaken (fun _ _ _ _ => trivial)⟩⟩ rfl rfl hl.1 rfl (lv_room (Nat.le_of_ble_eq_true rfl)) d_Rule_init_42 ⟨(Nat.le_of_ble_eq_true rfl), (Nat.le_of_ble_eq_true rfl)⟩) hS (fun q _ h => hFc q h) hFc (fun u t H1 locs ht hvm hr14 hB hz1 hk1 hS => ?_)
  obtain ⟨q15, cA16, hP1, hK1, hD1⟩ := hB
  rw [ht] at hP1
  have hK1 := va_K.moved hvm.symm hK1
  obtain ⟨hP, hD⟩ := va_join (wr := [(h0, .inr (7, [.ref q1, .ref q5, .ref q9, .null, .int 0, .int 0, .int 0])), (q1, .inr (2, [.ref q3, .int 0])), (q3, .inl (cA4, 8, .inl (fun _ => 0))), (q5, .inr (2, [.ref q7, .int 0])), (q7, .inl (cA8, 8, .inl (fun _ => 0))), (q9, .inr (2, [.ref q11, .int 0])), (q11, .inl (cA12, 8, .inl (fun _ => 0)))]) (w1 := [(q13, .inr (2, [.ref q15, .int 0])), (q15, .inl (cA16, 8, .inl (fun _ => 0)))]) hP hD [7] [0, 1, 2, 3, 4, 5, 6] rfl rfl (by decide) (by decide) hk1 hFc hP1 hD1
  have hK := hK.app (hK1.sub (tys' := [(cA16, .int)]) [0] rfl)
  have hK : va_K (dC, dI) classes [(cA4, .int), (cA8, .int), (cA12, .int), (cA16, .int)] s := hK
  clear hPc hDc hKc hFc hP1 hD1 hK1 hk1
  generalize H1 = H at hP hS ⊢
  have hP : va_P (dC, dI) classes [(h0, .inr (7, [.ref q1, .ref q5, .ref q9, .null, .int 0, .int 0, .int 0])), (q1, .inr (2, [.ref q3, .int 0])), (q3, .inl (cA4, 8, .inl (fun _ => 0))), (q5, .inr (2, [.ref q7, .int 0])), (q7, .inl (cA8, 8, .inl (fun _ => 0))), (q9, .inr (2, [.ref q11, .int 0])), (q11, .inl (cA12, 8, .inl (fun _ => 0))), (q13, .inr (2, [.ref q15, .int 0])), (q15, .inl (cA16, 8, .inl (fun _ => 0)))] H := hP
  have hD : va_D A [(h0, .inr (7, [.ref q1, .ref q5, .ref q9, .null, .int 0, .int 0, .int 0])), (q1, .inr (2, [.ref q3, .int 0])), (q3, .inl (cA4, 8, .inl (fun _ => 0))), (q5, .inr (2, [.ref q7, .int 0])), (q7, .inl (cA8, 8, .inl (fun _ => 0))), (q9, .inr (2, [.ref q11, .int 0])), (q11, .inl (cA12, 8, .inl (fun _ => 0))), (q13, .inr (2, [.ref q15, .int 0])), (q15, .inl (cA16, 8, .inl (fun _ => 0)))] := hD
  refine W.widen (k := 8) (n := 40) (by omega) (by omega) ?_
  refine va_putF (D := (dC, dI)) (ci := 7) (v := .ref q13) (ty := .object "Leastcode$Code") (C := R_RU) (T := T_RU) (N := 7) hx hb hts in_Rule_init_RU t_RU t_RU_ok n_RU hown hK hP hD hS 0 rfl rfl 3 (by decide) (hts (.fieldLink "Leastcode$Rule" 22 "Leastcode$Rule" "mirroredRight" "LLeastcode$Code;") (List.mem_of_getElem? (i := 24) rfl)) (fun _ h9 => h9) rfl hin rfl (by decide +kernel) rfl rfl (Nat.le_of_ble_eq_true rfl) d_Rule_init_45 (fun H locs hP hD hS => ?_)
  have hP : va_P (dC, dI) classes [(h0, .inr (7, [.ref q1, .ref q5, .ref q9, .ref q13, .int 0, .int 0, .int 0])), (q1, .inr (2, [.ref q3, .int 0])), (q3, .inl (cA4, 8, .inl (fun _ => 0))), (q5, .inr (2, [.ref q7, .int 0])), (q7, .inl (cA8, 8, .inl (fun _ => 0))), (q9, .inr (2, [.ref q11, .int 0])), (q11, .inl (cA12, 8, .inl (fun _ => 0))), (q13, .inr (2, [.ref q15, .int 0])), (q15, .inl (cA16, 8, .inl (fun _ => 0)))] H := hP
  have hD : va_D A [(h0, .inr (7, [.ref q1, .ref q5, .ref q9, .ref q13, .int 0, .int 0, .int 0])), (q1, .inr (2, [.ref q3, .int 0])), (q3, .inl (cA4, 8, .inl (fun _ => 0))), (q5, .inr (2, [.ref q7, .int 0])), (q7, .inl (cA8, 8, .inl (fun _ => 0))), (q9, .inr (2, [.ref q11, .int 0])), (q11, .inl (cA12, 8, .inl (fun _ => 0))), (q13, .inr (2, [.ref q15, .int 0])), (q15, .inl (cA16, 8, .inl (fun _ => 0)))] := hD
  have hP9 : va_P (dC, dI) classes [(h0, .inr (7, [.ref q1, .ref q5, .ref q9, .ref q13, .int 0, .int 0, .int 0]))] H := hP.sub (ws' := [(h0, .inr (7, [.ref q1, .ref q5, .ref q9, .ref q13, .int 0, .int 0, .int 0]))]) [0] rfl
  have hD9 := hD.sub (ws' := [(h0, .inr (7, [.ref q1, .ref q5, .ref q9, .ref q13, .int 0, .int 0, .int 0]))]) [0] (by decide) rfl
  have hK9 := hK.sub (tys' := []) [] rfl
  refine W.widen (k := 8) (n := 40) (by omega) (by omega) ?_
  exact W.vret hx hb hr (fun t ht hW => ⟨⟨(), rfl, trivial, ⟨q1, ⟨q5, ⟨q9, ⟨q13, ⟨by rw [ht]; exact hP9, va_K.moved hW.alike hK9, hD9⟩⟩⟩⟩⟩⟩, hS.F ht⟩) hS.2.2 d_Rule_init_48

abbrev rm_Lots_init : Room := { frames := 1, cells := 0, slots := 0, locals := 12 }
abbrev b_Lots_init : ByteArray := prog_5_method_1_code
def y_Lots_init : MethodName := ⟨"Leastcode$Lots", "<init>", "()V"⟩
def w_Lots_init : List Cond := [.code ⟨"Leastcode$Lots", "<init>", "()V"⟩ prog_5_method_1_code 1 none, .methodLink "Leastcode$Lots" 1 ⟨"java/lang/Object", "<init>", "()V"⟩, .instanceMethod ⟨"java/lang/Object", "<init>", "()V"⟩, .code ⟨"java/lang/Object", "<init>", "()V"⟩ object_method_1_code 1 none, .lays "Leastcode$Lots" "Leastcode$Lots" "z" "I", .fieldLink "Leastcode$Lots" 7 "Leastcode$Lots" "z" "I"]
theorem d_Lots_init_0 : decode b_Lots_init 0 = .ok (.aload_n 0, 1) := by decide +kernel
theorem d_Lots_init_1 : decode b_Lots_init 1 = .ok (.invokespecial 1, 3) := by decide +kernel
theorem d_Lots_init_4 : decode b_Lots_init 4 = .ok (.aload_n 0, 1) := by decide +kernel
theorem d_Lots_init_5 : decode b_Lots_init 5 = .ok (.iconst 1, 1) := by decide +kernel
theorem d_Lots_init_6 : decode b_Lots_init 6 = .ok (.putfield 7, 3) := by decide +kernel
theorem d_Lots_init_9 : decode b_Lots_init 9 = .ok (.return_, 1) := by decide +kernel
theorem in_Lots_init_LO : ∀ v ∈ u_ws R_LO T_LO 1, v ∈ w_Lots_init := by decide +kernel
set_option maxHeartbeats 4000000 in
set_option maxRecDepth 100000 in
theorem c_Lots_init (l : Launch) (dC : Nat → ClassId) (dI : Nat → Nat → Nat) (h0 : Nat) (sz : Nat) : Met l y_Lots_init w_Lots_init rm_Lots_init (va_Pc [.ref h0] (fun U => U.heap.size = sz ∧ va_P (dC, dI) classes [(h0, .inr (4, [.int 0]))] U.heap ∧ va_K (dC, dI) classes [] U ∧ va_D (fun _ => True) [(h0, .inr (4, [.int 0]))])) (va_Qv (fun (_ : Unit) => True) (fun _ t => va_P (dC, dI) classes [(h0, .inr (4, [.int 1]))] t.heap ∧ va_K (dC, dI) classes [] t ∧ va_D (va_A [(h0, .inr (4, [.int 0]))] sz) [(h0, .inr (4, [.int 1]))]) (va_A [(h0, .inr (4, [.int 0]))] sz)) 0 0 (va_A [(h0, .inr (4, [.int 0]))] sz) := by
  refine Met.ofW (cc := b_Lots_init) (maxL := 1) (ret := none) (by decide) rfl ?_
  intro p e s m args below meth c s₁ B hml hv
  obtain ⟨rfl, hsz, hP, hK, hD0⟩ := hv
  have hx := B.exec
  have hb := B.bytes
  have hr := B.returns
  have hts := atoms_spec (ws := w_Lots_init) B.pre
  have hown : s.vm.findClass "Leastcode$Lots" = some m.cls := findClass_of_methodNamed B.named
  have hlocks := B.notSynchronized
  have hin : meth.name = "<init>" := (name_of_methodNamed B.named B.method).1
  subst hsz
  have hD := hD0.self (sz := s.heap.size)
  generalize hAe : va_A [(h0, .inr (4, [.int 0]))] s.heap.size = A at hD ⊢
  have hA : ∀ q : Nat, s.heap.size ≤ q → A q := fun q h => by rw [← hAe]; exact Or.inr h
  have hS : va_S A s.heap s.heap [] := va_S.rf
  have hP : va_P (dC, dI) classes [(h0, .inr (4, [.int 0]))] s.heap := hP
  have hl := lv_entry ([.ref h0]) (n := 1) (Nat.le_of_ble_eq_true rfl)
  rw [lg_entry_eq]
  generalize (lg_sl ([.ref h0]) ++ List.replicate (1 - (lg_sl ([.ref h0])).length) Slot.unset).toArray = ls at hl ⊢
  have hl : lv_has ls 1 [(0, .ref h0)] := hl
  refine lv_aload_n hx hb d_Lots_init_0 rfl (lv_at hl 0 rfl) ?_
  refine W.objInit hx hb hown (hts (.methodLink "Leastcode$Lots" 1 ⟨"java/lang/Object", "<init>", "()V"⟩) (List.mem_of_getElem? (i := 1) rfl)) (hts (.instanceMethod ⟨"java/lang/Object", "<init>", "()V"⟩) (List.mem_of_getElem? (i := 2) rfl)) (hts (.code ⟨"java/lang/Object", "<init>", "()V"⟩ object_method_1_code 1 none) (List.mem_of_getElem? (i := 3) rfl)) rfl (by rw [hml]; exact hl.1) rfl d_Lots_init_1 (Nat.le_of_ble_eq_true rfl) (Nat.le_of_ble_eq_true rfl) ?_
  refine W.eq (g2 := F0 m 4 ls []) rfl ?_
  refine lv_aload_n hx hb d_Lots_init_4 rfl (lv_at hl 0 rfl) ?_
  refine lv_iconst (v := 1) hx hb d_Lots_init_5 (by decide) ?_
  refine va_put (D := (dC, dI)) (ci := 4) (v := .int 1) (ty := .int) (C := R_LO) (T := T_LO) (N := 1) hx hb hts in_Lots_init_LO t_LO t_LO_ok n_LO hown hK hP hD hS 0 rfl rfl 0 (by decide) (hts (.fieldLink "Leastcode$Lots" 7 "Leastcode$Lots" "z" "I") (List.mem_of_getElem? (i := 5) rfl)) (fun _ h9 => h9) rfl (by decide +kernel) rfl rfl (Nat.le_of_ble_eq_true rfl) d_Lots_init_6 (fun H locs hP hD hS => ?_)
  have hP : va_P (dC, dI) classes [(h0, .inr (4, [.int 1]))] H := hP
  have hD : va_D A [(h0, .inr (4, [.int 1]))] := hD
  have hP9 : va_P (dC, dI) classes [(h0, .inr (4, [.int 1]))] H := hP.sub (ws' := [(h0, .inr (4, [.int 1]))]) [0] rfl
  have hD9 := hD.sub (ws' := [(h0, .inr (4, [.int 1]))]) [0] (by decide) rfl
  have hK9 := hK.sub (tys' := []) [] rfl
  refine W.widen (k := 0) (n := 0) (by omega) (by omega) ?_
  exact W.vret hx hb hr (fun t ht hW => ⟨⟨(), rfl, trivial, ⟨by rw [ht]; exact hP9, va_K.moved hW.alike hK9, hD9⟩⟩, hS.F ht⟩) hS.2.2 d_Lots_init_9

abbrev rm_Search_init : Room := { frames := 2, cells := 2, slots := 10, locals := 32 }
abbrev b_Search_init : ByteArray := prog_9_method_1_code
def y_Search_init : MethodName := ⟨"Leastcode$Search", "<init>", "(LLeastcode$Machine;)V"⟩
def w_Search_init : List Cond := [.code ⟨"Leastcode$Search", "<init>", "(LLeastcode$Machine;)V"⟩ prog_9_method_1_code 2 none, .methodLink "Leastcode$Search" 3 ⟨"java/lang/Object", "<init>", "()V"⟩, .instanceMethod ⟨"java/lang/Object", "<init>", "()V"⟩, .code ⟨"java/lang/Object", "<init>", "()V"⟩ object_method_1_code 1 none, .laysFinal "Leastcode$Code" "Leastcode$Code" "numbers" "[I", .lays "Leastcode$Code" "Leastcode$Code" "length" "I", .classLink "Leastcode$Search" 9 "Leastcode$Code", .instantiable "Leastcode$Code" 2, .initialized "Leastcode$Code", .code ⟨"Leastcode$Code", "<init>", "()V"⟩ prog_2_method_1_code 1 none, .methodLink "Leastcode$Code" 3 ⟨"java/lang/Object", "<init>", "()V"⟩, .arrayClass .int, .fieldLink "Leastcode$Code" 9 "Leastcode$Code" "numbers" "[I", .instanceMethod ⟨"Leastcode$Code", "<init>", "()V"⟩, .laysFinal "Leastcode$Search" "Leastcode$Search" "machine" "LLeastcode$Machine;", .laysFinal "Leastcode$Search" "Leastcode$Search" "ahead" "LLeastcode$Code;", .lays "Leastcode$Search" "Leastcode$Search" "refusing" "I", .fieldLink "Leastcode$Search" 12 "Leastcode$Search" "ahead" "LLeastcode$Code;", .fieldLink "Leastcode$Search" 18 "Leastcode$Search" "machine" "LLeastcode$Machine;"]
theorem d_Search_init_0 : decode b_Search_init 0 = .ok (.aload_n 0, 1) := by decide +kernel
theorem d_Search_init_1 : decode b_Search_init 1 = .ok (.invokespecial 3, 3) := by decide +kernel
theorem d_Search_init_4 : decode b_Search_init 4 = .ok (.aload_n 0, 1) := by decide +kernel
theorem d_Search_init_5 : decode b_Search_init 5 = .ok (.new 9, 3) := by decide +kernel
theorem d_Search_init_8 : decode b_Search_init 8 = .ok (.dup, 1) := by decide +kernel
theorem d_Search_init_9 : decode b_Search_init 9 = .ok (.invokespecial 11, 3) := by decide +kernel
theorem d_Search_init_12 : decode b_Search_init 12 = .ok (.putfield 12, 3) := by decide +kernel
theorem d_Search_init_15 : decode b_Search_init 15 = .ok (.aload_n 0, 1) := by decide +kernel
theorem d_Search_init_16 : decode b_Search_init 16 = .ok (.aload_n 1, 1) := by decide +kernel
theorem d_Search_init_17 : decode b_Search_init 17 = .ok (.putfield 18, 3) := by decide +kernel
theorem d_Search_init_20 : decode b_Search_init 20 = .ok (.return_, 1) := by decide +kernel
theorem in_Search_init_CO : ∀ v ∈ u_ws R_CO T_CO 2, v ∈ w_Search_init := by decide +kernel
theorem in_Search_init_SE : ∀ v ∈ u_ws R_SE T_SE 3, v ∈ w_Search_init := by decide +kernel
set_option maxRecDepth 20000 in
theorem g_Search_init_9 : GoodIn w_Search_init (w_Code_init) := goodIn_r _ [9, 10, 2, 3, 11, 4, 5, 12] rfl (by decide +kernel)
set_option maxHeartbeats 4000000 in
set_option maxRecDepth 100000 in
theorem c_Search_init (l : Launch) (dC : Nat → ClassId) (dI : Nat → Nat → Nat) (h0 : Nat) (h1 : Nat) (sz : Nat) : Met l y_Search_init w_Search_init rm_Search_init (va_Pc [.ref h0, .ref h1] (fun U => U.heap.size = sz ∧ va_P (dC, dI) classes [(h0, .inr (5, [.null, .null, .int 0]))] U.heap ∧ va_K (dC, dI) classes [] U ∧ va_D (fun _ => True) [(h0, .inr (5, [.null, .null, .int 0]))] ∧ va_Nw (.methodLinkNest "Leastcode$Search" 11 ⟨"Leastcode$Code", "<init>", "()V"⟩ "Leastcode") U)) (va_Qv (fun (_ : Unit) => True) (fun _ t => ∃ qa : Nat, va_P (dC, dI) classes [(h0, .inr (5, [.ref h1, .ref qa, .int 0]))] t.heap ∧ va_K (dC, dI) classes [] t ∧ va_D (va_A [(h0, .inr (5, [.null, .null, .int 0]))] sz) [(h0, .inr (5, [.ref h1, .ref qa, .int 0]))]) (va_A [(h0, .inr (5, [.null, .null, .int 0]))] sz)) 2 10 (va_A [(h0, .inr (5, [.null, .null, .int 0]))] sz) := by
  refine Met.ofW (cc := b_Search_init) (maxL := 2) (ret := none) (by decide) rfl ?_
  intro p e s m args below meth c s₁ B hml hv
  obtain ⟨rfl, hsz, hP, hK, hD0, hE0⟩ := hv
  have hx := B.exec
  have hb := B.bytes
  have hr := B.returns
  have hts := atoms_spec (ws := w_Search_init) B.pre
  have hown : s.vm.findClass "Leastcode$Search" = some m.cls := findClass_of_methodNamed B.named
  have hlocks := B.notSynchronized
  have hin : meth.name = "<init>" := (name_of_methodNamed B.named B.method).1
  subst hsz
  have hD := hD0.self (sz := s.heap.size)
  generalize hAe : va_A [(h0, .inr (5, [.null, .null, .int 0]))] s.heap.size = A at hD hE0 ⊢
  have hA : ∀ q : Nat, s.heap.size ≤ q → A q := fun q h => by rw [← hAe]; exact Or.inr h
  have hS : va_S A s.heap s.heap [] := va_S.rf
  have hP : va_P (dC, dI) classes [(h0, .inr (5, [.null, .null, .int 0]))] s.heap := hP
  have hl := lv_entry ([.ref h0, .ref h1]) (n := 2) (Nat.le_of_ble_eq_true rfl)
  rw [lg_entry_eq]
  generalize (lg_sl ([.ref h0, .ref h1]) ++ List.replicate (2 - (lg_sl ([.ref h0, .ref h1])).length) Slot.unset).toArray = ls at hl ⊢
  have hl : lv_has ls 2 [(0, .ref h0), (1, .ref h1)] := hl
  refine lv_aload_n hx hb d_Search_init_0 rfl (lv_at hl 0 rfl) ?_
  refine W.objInit hx hb hown (hts (.methodLink "Leastcode$Search" 3 ⟨"java/lang/Object", "<init>", "()V"⟩) (List.mem_of_getElem? (i := 1) rfl)) (hts (.instanceMethod ⟨"java/lang/Object", "<init>", "()V"⟩) (List.mem_of_getElem? (i := 2) rfl)) (hts (.code ⟨"java/lang/Object", "<init>", "()V"⟩ object_method_1_code 1 none) (List.mem_of_getElem? (i := 3) rfl)) rfl (by rw [hml]; exact hl.1) rfl d_Search_init_1 (Nat.le_of_ble_eq_true rfl) (Nat.le_of_ble_eq_true rfl) ?_
  refine W.eq (g2 := F0 m 4 ls []) rfl ?_
  refine lv_aload_n hx hb d_Search_init_4 rfl (lv_at hl 0 rfl) ?_
  refine va_new (D := (dC, dI)) (ci := 2) (fs := [.null, .int 0]) (C := R_CO) (T := T_CO) (N := 2) hx hb hts in_Search_init_CO t_CO t_CO_ok hown (hts (.classLink "Leastcode$Search" 9 "Leastcode$Code") (List.mem_of_getElem? (i := 6) rfl)) (hts (.instantiable "Leastcode$Code" 2) (List.mem_of_getElem? (i := 7) rfl)) (hts (.initialized "Leastcode$Code") (List.mem_of_getElem? (i := 8) rfl)) hK hP hD hS hA rfl (fun j hj => by rcases (show j = 0 ∨ j = 1 by omega) with rfl | rfl <;> rfl) (Nat.le_of_ble_eq_true rfl) (Nat.le_of_ble_eq_true rfl) d_Search_init_5 (fun q1 H hP hD hS => ?_)
  have hP : va_P (dC, dI) classes [(h0, .inr (5, [.null, .null, .int 0])), (q1, .inr (2, [.null, .int 0]))] H := hP
  have hD : va_D A [(h0, .inr (5, [.null, .null, .int 0])), (q1, .inr (2, [.null, .int 0]))] := hD
  refine W.widen (k := 1) (n := 2) (by omega) (by omega) ?_
  refine lv_dup hx hb d_Search_init_8 rfl ?_
  have hPc : va_P (dC, dI) classes [(q1, .inr (2, [.null, .int 0]))] _ := hP.sub (ws' := [(q1, .inr (2, [.null, .int 0]))]) [1] rfl
  have hKc : va_K (dC, dI) classes [] s := hK.sub (tys' := []) [] rfl
  have hDc : va_D _ [(q1, .inr (2, [.null, .int 0]))] := hD.sub (ws' := [(q1, .inr (2, [.null, .int 0]))]) [1] (by decide) rfl
  have hFc := va_free (wc := [(q1, .inr (2, [.null, .int 0]))]) hD hS hA [1] rfl
  refine va_callv (va_runIN (As := []) (rest := [.ref q1, .ref h0]) ⟨hx, hb, hml, hown, hts⟩ (c_Code_init l dC dI q1 H.size) ⟨va_cnB 0 hts g_Search_init_9 rfl rfl rfl hE0 (hts (.initialized "Leastcode$Code") (List.mem_of_getElem? (i := 8) rfl)) (by decide +kernel) ⟨Nat.le_of_ble_eq_true rfl, Nat.le_of_ble_eq_true rfl⟩, rfl, (hts (.instanceMethod ⟨"Leastcode$Code", "<init>", "()V"⟩) (List.mem_of_getElem? (i := 13) rfl))⟩ ⟨fun a U g mk z => by obtain ⟨z0, z1, zP, zK, zD⟩ := z; exact ⟨z0, z1, zP, va_K.moved (u := U) (U := U.calling g mk a) (Vm.Alike.refl U.vm) zK, zD⟩, fun U hU hW => ⟨rfl, by rw [hU], by rw [hU]; exact hPc, va_K.moved hW.alike hKc, hDc.weaken (fun _ _ _ _ => trivial)⟩⟩ rfl rfl hl.1 rfl (lv_room (Nat.le_of_ble_eq_true rfl)) d_Search_init_9 ⟨(Nat.le_of_ble_eq_true rfl), (Nat.le_of_ble_eq_true rfl)⟩) hS (fun q _ h => hFc q h) hFc (fun u t H1 locs ht hvm hr2 hB hz1 hk1 hS => ?_)
  obtain ⟨q3, cA4, hP1, hK1, hD1⟩ := hB
  rw [ht] at hP1
  have hK1 := va_K.moved hvm.symm hK1
  obtain ⟨hP, hD⟩ := va_join (wr := [(h0, .inr (5, [.null, .null, .int 0]))]) (w1 := [(q1, .inr (2, [.ref q3, .int 0])), (q3, .inl (cA4, 8, .inl (fun _ => 0)))]) hP hD [1] [0] rfl rfl (by decide) (by decide) hk1 hFc hP1 hD1
  have hK := hK.app (hK1.sub (tys' := [(cA4, .int)]) [0] rfl)
  have hK : va_K (dC, dI) classes [(cA4, .int)] s := hK
  clear hPc hDc hKc hFc hP1 hD1 hK1 hk1
  generalize H1 = H at hP hS ⊢
  have hP : va_P (dC, dI) classes [(h0, .inr (5, [.null, .null, .int 0])), (q1, .inr (2, [.ref q3, .int 0])), (q3, .inl (cA4, 8, .inl (fun _ => 0)))] H := hP
  have hD : va_D A [(h0, .inr (5, [.null, .null, .int 0])), (q1, .inr (2, [.ref q3, .int 0])), (q3, .inl (cA4, 8, .inl (fun _ => 0)))] := hD
  refine W.widen (k := 2) (n := 10) (by omega) (by omega) ?_
  refine va_putF (D := (dC, dI)) (ci := 5) (v := .ref q1) (ty := .object "Leastcode$Code") (C := R_SE) (T := T_SE) (N := 3) hx hb hts in_Search_init_SE t_SE t_SE_ok n_SE hown hK hP hD hS 0 rfl rfl 1 (by decide) (hts (.fieldLink "Leastcode$Search" 12 "Leastcode$Search" "ahead" "LLeastcode$Code;") (List.mem_of_getElem? (i := 17) rfl)) (fun _ h9 => h9) rfl hin rfl (by decide +kernel) rfl rfl (Nat.le_of_ble_eq_true rfl) d_Search_init_12 (fun H locs hP hD hS => ?_)
  have hP : va_P (dC, dI) classes [(h0, .inr (5, [.null, .ref q1, .int 0])), (q1, .inr (2, [.ref q3, .int 0])), (q3, .inl (cA4, 8, .inl (fun _ => 0)))] H := hP
  have hD : va_D A [(h0, .inr (5, [.null, .ref q1, .int 0])), (q1, .inr (2, [.ref q3, .int 0])), (q3, .inl (cA4, 8, .inl (fun _ => 0)))] := hD
  refine lv_aload_n hx hb d_Search_init_15 rfl (lv_at hl 0 rfl) ?_
  refine lv_aload_n hx hb d_Search_init_16 rfl (lv_at hl 1 rfl) ?_
  refine va_putF (D := (dC, dI)) (ci := 5) (v := .ref h1) (ty := .object "Leastcode$Machine") (C := R_SE) (T := T_SE) (N := 3) hx hb hts in_Search_init_SE t_SE t_SE_ok n_SE hown hK hP hD hS 0 rfl rfl 0 (by decide) (hts (.fieldLink "Leastcode$Search" 18 "Leastcode$Search" "machine" "LLeastcode$Machine;") (List.mem_of_getElem? (i := 18) rfl)) (fun _ h9 => h9) rfl hin rfl (by decide +kernel) rfl rfl (Nat.le_of_ble_eq_true rfl) d_Search_init_17 (fun H locs hP hD hS => ?_)
  have hP : va_P (dC, dI) classes [(h0, .inr (5, [.ref h1, .ref q1, .int 0])), (q1, .inr (2, [.ref q3, .int 0])), (q3, .inl (cA4, 8, .inl (fun _ => 0)))] H := hP
  have hD : va_D A [(h0, .inr (5, [.ref h1, .ref q1, .int 0])), (q1, .inr (2, [.ref q3, .int 0])), (q3, .inl (cA4, 8, .inl (fun _ => 0)))] := hD
  have hP9 : va_P (dC, dI) classes [(h0, .inr (5, [.ref h1, .ref q1, .int 0]))] H := hP.sub (ws' := [(h0, .inr (5, [.ref h1, .ref q1, .int 0]))]) [0] rfl
  have hD9 := hD.sub (ws' := [(h0, .inr (5, [.ref h1, .ref q1, .int 0]))]) [0] (by decide) rfl
  have hK9 := hK.sub (tys' := []) [] rfl
  refine W.widen (k := 2) (n := 10) (by omega) (by omega) ?_
  exact W.vret hx hb hr (fun t ht hW => ⟨⟨(), rfl, trivial, ⟨q1, ⟨by rw [ht]; exact hP9, va_K.moved hW.alike hK9, hD9⟩⟩⟩, hS.F ht⟩) hS.2.2 d_Search_init_20
end
section
abbrev rm_fill : Room := { frames := 0, cells := 0, slots := 0, locals := 0 }
abbrev b_fill : ByteArray := prog_55_method_103_code
def y_fill : MethodName := ⟨"java/util/Arrays", "fill", "([II)V"⟩
def w_fill : List Cond := [.code ⟨"java/util/Arrays", "fill", "([II)V"⟩ prog_55_method_103_code 4 none]
theorem d_fill_0 : decode b_fill 0 = .ok (.iconst 0, 1) := by decide +kernel
theorem d_fill_1 : decode b_fill 1 = .ok (.istore_n 2, 1) := by decide +kernel
theorem d_fill_2 : decode b_fill 2 = .ok (.aload_n 0, 1) := by decide +kernel
theorem d_fill_3 : decode b_fill 3 = .ok (.arraylength, 1) := by decide +kernel
theorem d_fill_4 : decode b_fill 4 = .ok (.istore_n 3, 1) := by decide +kernel
theorem d_fill_5 : decode b_fill 5 = .ok (.iload_n 2, 1) := by decide +kernel
theorem d_fill_6 : decode b_fill 6 = .ok (.iload_n 3, 1) := by decide +kernel
theorem d_fill_7 : decode b_fill 7 = .ok (.if_icmp .ge 13, 3) := by decide +kernel
theorem d_fill_10 : decode b_fill 10 = .ok (.aload_n 0, 1) := by decide +kernel
theorem d_fill_11 : decode b_fill 11 = .ok (.iload_n 2, 1) := by decide +kernel
theorem d_fill_12 : decode b_fill 12 = .ok (.iload_n 1, 1) := by decide +kernel
theorem d_fill_13 : decode b_fill 13 = .ok (.iastore, 1) := by decide +kernel
theorem d_fill_14 : decode b_fill 14 = .ok (.iinc 2 1, 3) := by decide +kernel
theorem d_fill_17 : decode b_fill 17 = .ok (.goto (-12), 3) := by decide +kernel
theorem d_fill_20 : decode b_fill 20 = .ok (.return_, 1) := by decide +kernel
set_option maxHeartbeats 4000000 in
set_option maxRecDepth 100000 in
theorem c_fill (l : Launch) (dC : Nat → ClassId) (dI : Nat → Nat → Nat) (h0 : Nat) (cA : ClassId) (f0 : Nat → Int32) (x0 : Int32) (sz : Nat) : Met l y_fill w_fill rm_fill (va_Pc [.ref h0, .int x0] (fun U => U.heap.size = sz ∧ va_P (dC, dI) classes [(h0, .inl (cA, 16, .inl (f0)))] U.heap ∧ va_K (dC, dI) classes [(cA, .int)] U ∧ va_D (fun _ => True) [(h0, .inl (cA, 16, .inl (f0)))])) (va_Qv (fun (_ : Unit) => True) (fun _ t => ∃ f : Nat → Int32, va_P (dC, dI) classes [(h0, .inl (cA, 16, .inl (f)))] t.heap ∧ va_K (dC, dI) classes [(cA, .int)] t ∧ va_D (va_A [(h0, .inl (cA, 16, .inl (f0)))] sz) [(h0, .inl (cA, 16, .inl (f)))]) (va_A [(h0, .inl (cA, 16, .inl (f0)))] sz)) 0 0 (va_A [(h0, .inl (cA, 16, .inl (f0)))] sz) := by
  refine Met.ofW (cc := b_fill) (maxL := 4) (ret := none) (by decide) rfl ?_
  intro p e s m args below meth c s₁ B hml hv
  obtain ⟨rfl, hsz, hP, hK, hD0⟩ := hv
  have hx := B.exec
  have hb := B.bytes
  have hr := B.returns
  have hts := atoms_spec (ws := w_fill) B.pre
  have hown : s.vm.findClass "java/util/Arrays" = some m.cls := findClass_of_methodNamed B.named
  have hlocks := B.notSynchronized
  subst hsz
  have hD := hD0.self (sz := s.heap.size)
  generalize hAe : va_A [(h0, .inl (cA, 16, .inl (f0)))] s.heap.size = A at hD ⊢
  have hA : ∀ q : Nat, s.heap.size ≤ q → A q := fun q h => by rw [← hAe]; exact Or.inr h
  have hS : va_S A s.heap s.heap [] := va_S.rf
  have hP : va_P (dC, dI) classes [(h0, .inl (cA, 16, .inl (f0)))] s.heap := hP
  have hl := lv_entry ([.ref h0, .int x0]) (n := 4) (Nat.le_of_ble_eq_true rfl)
  rw [lg_entry_eq]
  generalize (lg_sl ([.ref h0, .int x0]) ++ List.replicate (4 - (lg_sl ([.ref h0, .int x0])).length) Slot.unset).toArray = ls at hl ⊢
  have hl : lv_has ls 4 [(0, .ref h0), (1, .int x0)] := hl
  refine lv_iconst (v := 0) hx hb d_fill_0 (by decide) ?_
  refine lv_istore_n (lv' := [(2, .int 0), (0, .ref h0), (1, .int x0)]) hx hb d_fill_1 rfl hl (by decide) rfl (fun ls hl => ?_)
  refine lv_aload_n hx hb d_fill_2 rfl (lv_at hl 1 rfl) ?_
  refine va_alen (v := 16) hx hb hK hP 0 0 rfl rfl (show Int32.ofNat 16 = 16 by decide) d_fill_3 ?_
  refine lv_istore_n (lv' := [(3, .int 16), (2, .int 0), (0, .ref h0), (1, .int x0)]) hx hb d_fill_4 rfl hl (by decide) rfl (fun ls hl => ?_)
  refine ry_abs (fun QQ hQ => ?_)
  have loop : ∀ (k i : Nat), i + k = 16 → ∀ (H : Heap) (locs : List Loc) (f : Nat → Int32) (ls : Array Slot) (x : Int32), x = nI i → va_P (dC, dI) classes [(h0, .inl (cA, 16, .inl (f)))] H → va_D A [(h0, .inl (cA, 16, .inl (f)))] → va_S A s.heap H locs → lv_has ls 4 [(2, .int x), (3, .int 16), (0, .ref h0), (1, .int x0)] → W p l e (headSpec w_fill rm_fill).room s m ([.ref h0, .int x0] : List Value).toArray below meth c H locs (0) (0) QQ (F0 m 5 ls []) := by
    intro k
    induction k with
    | zero =>
      intro i hi H locs f ls x ex0 hP hD hS hl
      obtain rfl : i = 16 := by omega
      refine lv_iload_n hx hb d_fill_5 rfl (lv_at hl 0 rfl) ?_
      refine lv_iload_n hx hb d_fill_6 rfl (lv_at hl 1 rfl) ?_
      refine lv_icmp_ge (tgt := 20) hx hb d_fill_7 (by decide) (fun c_7 => ?_) (fun c_7 => ?_)
      · skip
        subst hQ
        have hP9 : va_P (dC, dI) classes [(h0, .inl (cA, 16, .inl (f)))] H := hP.sub (ws' := [(h0, .inl (cA, 16, .inl (f)))]) [0] rfl
        have hD9 := hD.sub (ws' := [(h0, .inl (cA, 16, .inl (f)))]) [0] (by decide) rfl
        have hK9 := hK.sub (tys' := [(cA, .int)]) [0] rfl
        refine W.widen (k := 0) (n := 0) (by omega) (by omega) ?_
        exact W.vret hx hb hr (fun t ht hW => ⟨⟨(), rfl, trivial, ⟨f, ⟨by rw [ht]; exact hP9, va_K.moved hW.alike hK9, hD9⟩⟩⟩, hS.F ht⟩) hS.2.2 d_fill_20
      · exact absurd (by rw [ex0]; exact (show nI 16 ≤ nI 16 from nI_le (Nat.le_refl 16) (by omega))) c_7
    | succ k ih =>
      intro i hi H locs f ls x ex0 hP hD hS hl
      have hlt : i < 16 := by omega
      refine lv_iload_n hx hb d_fill_5 rfl (lv_at hl 0 rfl) ?_
      refine lv_iload_n hx hb d_fill_6 rfl (lv_at hl 1 rfl) ?_
      refine lv_icmp_ge (tgt := 20) hx hb d_fill_7 (by decide) (fun c_7 => ?_) (fun c_7 => ?_)
      · exact absurd c_7 (by rw [ex0]; exact (show ¬ nI 16 ≤ nI i from nI_ge hlt (by omega)))
      · skip
        refine lv_aload_n hx hb d_fill_10 rfl (lv_at hl 2 rfl) ?_
        refine lv_iload_n hx hb d_fill_11 rfl (lv_at hl 0 rfl) ?_
        refine lv_iload_n hx hb d_fill_12 rfl (lv_at hl 3 rfl) ?_
        refine va_iast (D := (dC, dI)) hx hb hK hP hD hS 0 0 rfl rfl (by rw [ex0]; exact vp_in_nI hlt (by omega)) d_fill_13 (fun H locs hP hD hS => ?_)
        have hP : va_P (dC, dI) classes [(h0, .inl (cA, 16, .inl (upd f (x : Int32).toNatClampNeg (x0))))] H := hP
        have hD : va_D A [(h0, .inl (cA, 16, .inl (upd f (x : Int32).toNatClampNeg (x0))))] := hD
        generalize upd f (x : Int32).toNatClampNeg (x0) = f1 at hP hD
        obtain ⟨x2, ex2⟩ : ∃ y : Int32, y = x + 1 := ⟨_, rfl⟩
        refine lv_iinc (v := x2) (lv' := [(2, .int x2), (3, .int 16), (0, .ref h0), (1, .int x0)]) hx hb d_fill_14 hl (k := 0) rfl (by rw [ex2]; rfl) (by decide) rfl (fun ls hl => ?_)
        refine lv_goto (tgt := 5) hx hb d_fill_17 (by decide) ?_
        exact ih (i + 1) (by omega) _ _ f1 _ x2 (by rw [ex2, ex0]; exact nI_1 i) hP hD hS (lv_sub hl [0, 1, 2, 3] rfl)
  exact loop 16 0 rfl _ _ _ _ _ nI_0.symm hP hD hS (lv_sub hl [1, 0, 2, 3] rfl)

abbrev rm_Prices_init : Room := { frames := 1, cells := 1, slots := 16, locals := 23 }
abbrev b_Prices_init : ByteArray := prog_7_method_1_code
def y_Prices_init : MethodName := ⟨"Leastcode$Prices", "<init>", "()V"⟩
def w_Prices_init : List Cond := [.code ⟨"Leastcode$Prices", "<init>", "()V"⟩ prog_7_method_1_code 1 none, .methodLink "Leastcode$Prices" 3 ⟨"java/lang/Object", "<init>", "()V"⟩, .instanceMethod ⟨"java/lang/Object", "<init>", "()V"⟩, .code ⟨"java/lang/Object", "<init>", "()V"⟩ object_method_1_code 1 none, .arrayClass .int, .laysFinal "Leastcode$Prices" "Leastcode$Prices" "byKind" "[I", .lays "Leastcode$Prices" "Leastcode$Prices" "waitCost" "I", .fieldLink "Leastcode$Prices" 9 "Leastcode$Prices" "byKind" "[I", .methodLink "Leastcode$Prices" 15 ⟨"java/util/Arrays", "fill", "([II)V"⟩, .static ⟨"java/util/Arrays", "fill", "([II)V"⟩, .initialized "java/util/Arrays", .code ⟨"java/util/Arrays", "fill", "([II)V"⟩ prog_55_method_103_code 4 none]
theorem d_Prices_init_0 : decode b_Prices_init 0 = .ok (.aload_n 0, 1) := by decide +kernel
theorem d_Prices_init_1 : decode b_Prices_init 1 = .ok (.invokespecial 3, 3) := by decide +kernel
theorem d_Prices_init_4 : decode b_Prices_init 4 = .ok (.aload_n 0, 1) := by decide +kernel
theorem d_Prices_init_5 : decode b_Prices_init 5 = .ok (.bipush 16, 2) := by decide +kernel
theorem d_Prices_init_7 : decode b_Prices_init 7 = .ok (.newarray .int, 2) := by decide +kernel
theorem d_Prices_init_9 : decode b_Prices_init 9 = .ok (.putfield 9, 3) := by decide +kernel
theorem d_Prices_init_12 : decode b_Prices_init 12 = .ok (.aload_n 0, 1) := by decide +kernel
theorem d_Prices_init_13 : decode b_Prices_init 13 = .ok (.getfield 9, 3) := by decide +kernel
theorem d_Prices_init_16 : decode b_Prices_init 16 = .ok (.iconst 1, 1) := by decide +kernel
theorem d_Prices_init_17 : decode b_Prices_init 17 = .ok (.invokestatic 15, 3) := by decide +kernel
theorem d_Prices_init_20 : decode b_Prices_init 20 = .ok (.return_, 1) := by decide +kernel
theorem in_Prices_init_PR : ∀ v ∈ u_ws R_PR T_PR 2, v ∈ w_Prices_init := by decide +kernel
set_option maxRecDepth 20000 in
theorem g_Prices_init_17 : GoodIn w_Prices_init (va_wsS "Leastcode$Prices" 15 ⟨"java/util/Arrays", "fill", "([II)V"⟩ w_fill) := goodIn_r _ [8, 9, 10, 11] rfl (by decide +kernel)
set_option maxHeartbeats 4000000 in
set_option maxRecDepth 100000 in
theorem c_Prices_init (l : Launch) (dC : Nat → ClassId) (dI : Nat → Nat → Nat) (h0 : Nat) (sz : Nat) : Met l y_Prices_init w_Prices_init rm_Prices_init (va_Pc [.ref h0] (fun U => U.heap.size = sz ∧ va_P (dC, dI) classes [(h0, .inr (3, [.null, .int 0]))] U.heap ∧ va_K (dC, dI) classes [] U ∧ va_D (fun _ => True) [(h0, .inr (3, [.null, .int 0]))])) (va_Qv (fun (_ : Unit) => True) (fun _ t => ∃ q : Nat, va_P (dC, dI) classes [(h0, .inr (3, [.ref q, .int 0]))] t.heap ∧ va_K (dC, dI) classes [] t ∧ va_D (va_A [(h0, .inr (3, [.null, .int 0]))] sz) [(h0, .inr (3, [.ref q, .int 0]))]) (va_A [(h0, .inr (3, [.null, .int 0]))] sz)) 1 16 (va_A [(h0, .inr (3, [.null, .int 0]))] sz) := by
  refine Met.ofW (cc := b_Prices_init) (maxL := 1) (ret := none) (by decide) rfl ?_
  intro p e s m args below meth c s₁ B hml hv
  obtain ⟨rfl, hsz, hP, hK, hD0⟩ := hv
  have hx := B.exec
  have hb := B.bytes
  have hr := B.returns
  have hts := atoms_spec (ws := w_Prices_init) B.pre
  have hown : s.vm.findClass "Leastcode$Prices" = some m.cls := findClass_of_methodNamed B.named
  have hlocks := B.notSynchronized
  have hin : meth.name = "<init>" := (name_of_methodNamed B.named B.method).1
  subst hsz
  have hD := hD0.self (sz := s.heap.size)
  generalize hAe : va_A [(h0, .inr (3, [.null, .int 0]))] s.heap.size = A at hD ⊢
  have hA : ∀ q : Nat, s.heap.size ≤ q → A q := fun q h => by rw [← hAe]; exact Or.inr h
  have hS : va_S A s.heap s.heap [] := va_S.rf
  have hP : va_P (dC, dI) classes [(h0, .inr (3, [.null, .int 0]))] s.heap := hP
  have hl := lv_entry ([.ref h0]) (n := 1) (Nat.le_of_ble_eq_true rfl)
  rw [lg_entry_eq]
  generalize (lg_sl ([.ref h0]) ++ List.replicate (1 - (lg_sl ([.ref h0])).length) Slot.unset).toArray = ls at hl ⊢
  have hl : lv_has ls 1 [(0, .ref h0)] := hl
  refine lv_aload_n hx hb d_Prices_init_0 rfl (lv_at hl 0 rfl) ?_
  refine W.objInit hx hb hown (hts (.methodLink "Leastcode$Prices" 3 ⟨"java/lang/Object", "<init>", "()V"⟩) (List.mem_of_getElem? (i := 1) rfl)) (hts (.instanceMethod ⟨"java/lang/Object", "<init>", "()V"⟩) (List.mem_of_getElem? (i := 2) rfl)) (hts (.code ⟨"java/lang/Object", "<init>", "()V"⟩ object_method_1_code 1 none) (List.mem_of_getElem? (i := 3) rfl)) rfl (by rw [hml]; exact hl.1) rfl d_Prices_init_1 (Nat.le_of_ble_eq_true rfl) (Nat.le_of_ble_eq_true rfl) ?_
  refine W.eq (g2 := F0 m 4 ls []) rfl ?_
  refine lv_aload_n hx hb d_Prices_init_4 rfl (lv_at hl 0 rfl) ?_
  refine lv_bipush (v := 16) hx hb d_Prices_init_5 (by decide) ?_
  refine va_newa (D := (dC, dI)) (atype := .int) (a0 := (16, .inl (fun _ => 0))) (ty := .int) (N' := 16) hx hb (hts (.arrayClass .int) (List.mem_of_getElem? (i := 4) rfl)) rfl hK hP hD hS hA (fun cA => rfl) (by decide) (by decide) (Nat.le_of_ble_eq_true rfl) (Nat.le_of_ble_eq_true rfl) (Nat.le_of_ble_eq_true rfl) d_Prices_init_7 (fun q1 cA2 H hK hP hD hS => ?_)
  have hP : va_P (dC, dI) classes [(h0, .inr (3, [.null, .int 0])), (q1, .inl (cA2, 16, .inl (fun _ => 0)))] H := hP
  have hK : va_K (dC, dI) classes [(cA2, .int)] s := hK
  have hD : va_D A [(h0, .inr (3, [.null, .int 0])), (q1, .inl (cA2, 16, .inl (fun _ => 0)))] := hD
  refine W.widen (k := 1) (n := 16) (by omega) (by omega) ?_
  refine va_putF (D := (dC, dI)) (ci := 3) (v := .ref q1) (ty := .array .int) (C := R_PR) (T := T_PR) (N := 2) hx hb hts in_Prices_init_PR t_PR t_PR_ok n_PR hown hK hP hD hS 0 rfl rfl 0 (by decide) (hts (.fieldLink "Leastcode$Prices" 9 "Leastcode$Prices" "byKind" "[I") (List.mem_of_getElem? (i := 7) rfl)) (fun _ h9 => h9) rfl hin rfl (by decide +kernel) rfl rfl (Nat.le_of_ble_eq_true rfl) d_Prices_init_9 (fun H locs hP hD hS => ?_)
  have hP : va_P (dC, dI) classes [(h0, .inr (3, [.ref q1, .int 0])), (q1, .inl (cA2, 16, .inl (fun _ => 0)))] H := hP
  have hD : va_D A [(h0, .inr (3, [.ref q1, .int 0])), (q1, .inl (cA2, 16, .inl (fun _ => 0)))] := hD
  refine lv_aload_n hx hb d_Prices_init_12 rfl (lv_at hl 0 rfl) ?_
  refine va_get (D := (dC, dI)) (ci := 3) (v := .ref q1) (C := R_PR) (T := T_PR) (N := 2) hx hb hts in_Prices_init_PR hown hK hP 0 rfl rfl 0 (by decide) (hts (.fieldLink "Leastcode$Prices" 9 "Leastcode$Prices" "byKind" "[I") (List.mem_of_getElem? (i := 7) rfl)) (fun _ h9 => h9) rfl d_Prices_init_13 ?_
  refine lv_iconst (v := 1) hx hb d_Prices_init_16 (by decide) ?_
  have hPc : va_P (dC, dI) classes [(q1, .inl (cA2, 16, .inl (fun _ => 0)))] _ := hP.sub (ws' := [(q1, .inl (cA2, 16, .inl (fun _ => 0)))]) [1] rfl
  have hKc : va_K (dC, dI) classes [(cA2, .int)] s := hK.sub (tys' := [(cA2, .int)]) [0] rfl
  have hDc : va_D _ [(q1, .inl (cA2, 16, .inl (fun _ => 0)))] := hD.sub (ws' := [(q1, .inl (cA2, 16, .inl (fun _ => 0)))]) [1] (by decide) rfl
  have hFc := va_free (wc := [(q1, .inl (cA2, 16, .inl (fun _ => 0)))]) hD hS hA [1] rfl
  refine va_callv (va_runS (As := [.ref q1, .int 1]) (rest := []) ⟨hx, hb, hml, hown, hts⟩ (c_fill l dC dI q1 cA2 (fun _ => 0) 1 H.size) (va_cwS 2 hts g_Prices_init_17 rfl rfl rfl (by decide +kernel) ⟨Nat.le_of_ble_eq_true rfl, Nat.le_of_ble_eq_true rfl⟩) ⟨fun a U g mk z => by obtain ⟨z0, z1, zP, zK, zD⟩ := z; exact ⟨z0, z1, zP, va_K.moved (u := U) (U := U.calling g mk a) (Vm.Alike.refl U.vm) zK, zD⟩, fun U hU hW => ⟨rfl, by rw [hU], by rw [hU]; exact hPc, va_K.moved hW.alike hKc, hDc.weaken (fun _ _ _ _ => trivial)⟩⟩ rfl rfl hl.1 rfl (lv_room (Nat.le_of_ble_eq_true rfl)) d_Prices_init_17 ⟨(Nat.le_of_ble_eq_true rfl), (Nat.le_of_ble_eq_true rfl)⟩) hS (fun q _ h => hFc q h) hFc (fun u t H1 locs ht hvm hr3 hB hz1 hk1 hS => ?_)
  obtain ⟨f4, hP1, hK1, hD1⟩ := hB
  rw [ht] at hP1
  have hK1 := va_K.moved hvm.symm hK1
  obtain ⟨hP, hD⟩ := va_join (wr := [(h0, .inr (3, [.ref q1, .int 0]))]) (w1 := [(q1, .inl (cA2, 16, .inl (f4)))]) hP hD [1] [0] rfl rfl (by decide) (by decide) hk1 hFc hP1 hD1
  clear hPc hDc hKc hFc hP1 hD1 hK1 hk1
  generalize H1 = H at hP hS ⊢
  have hP : va_P (dC, dI) classes [(h0, .inr (3, [.ref q1, .int 0])), (q1, .inl (cA2, 16, .inl (f4)))] H := hP
  have hD : va_D A [(h0, .inr (3, [.ref q1, .int 0])), (q1, .inl (cA2, 16, .inl (f4)))] := hD
  refine W.widen (k := 1) (n := 16) (by omega) (by omega) ?_
  have hP9 : va_P (dC, dI) classes [(h0, .inr (3, [.ref q1, .int 0]))] H := hP.sub (ws' := [(h0, .inr (3, [.ref q1, .int 0]))]) [0] rfl
  have hD9 := hD.sub (ws' := [(h0, .inr (3, [.ref q1, .int 0]))]) [0] (by decide) rfl
  have hK9 := hK.sub (tys' := []) [] rfl
  refine W.widen (k := 1) (n := 16) (by omega) (by omega) ?_
  exact W.vret hx hb hr (fun t ht hW => ⟨⟨(), rfl, trivial, ⟨q1, ⟨by rw [ht]; exact hP9, va_K.moved hW.alike hK9, hD9⟩⟩⟩, hS.F ht⟩) hS.2.2 d_Prices_init_20
end
section
/-! Strings: the bytes of "masnoxkcidlrtzbf"; a String constant by ldc_w. -/
def kbs : List Nat := [109, 97, 115, 110, 111, 120, 107, 99, 105, 100, 108, 114, 116, 122, 98, 102]
def kbv (j : Nat) : Int32 := nI (kbs.getD j 0)
def kb (j : Nat) : Value := .int (kbv j)
theorem kb_fix : ∀ k, k < 16 → ((kbv k &&& 255).toUInt32 % 65536).toInt32 = kbv k := by decide +kernel
theorem kb_nar : ∀ k, k < 16 → narrow .char (.int (kbv k)) = .int (kbv k) := fun k h => (pk_charN (q := kbs.getD k 0) ((by decide +kernel : ∀ k, k < 16 → kbs.getD k 0 < 65536) k h)).1
theorem kb_not : ∀ k, k < 15 → ¬ kbv k = 102 := by decide +kernel
theorem kb_last : kbv 15 = 102 := by decide +kernel
theorem nI_within {x : Int32} {n : Nat} (hn : n < 2 ^ 31) (h1 : ¬ x < 0) (h2 : ¬ nI n ≤ x) : ∃ k : Nat, k < n ∧ x = nI k := by
  rcases pk_ix x hn with h | h | h
  · exact absurd h h1
  · exact absurd h h2
  · exact h
section RW6
variable {p : Program} {l : Launch} {e : Env} {R : Room} {s : State} {m : MethodId} {args : Array Value} {below : List Frame} {meth : Method} {c : Code} {H : Heap} {locs : List Loc} {cells slots : Nat} {Q : State → Prop}
theorem va_ldcSW {cc : ByteArray} {pc : Nat} {ls : Array Slot} {rest : List Value} (hexec : p.tables.exec = Jvm.exec) (hb : c.code = cc) {own tx : String} {index q : Nat} (hown : s.vm.findClass own = some m.cls) (hZ : vk_R own index tx q s) (hdg : decode cc pc = .ok (.ldc_w index, 3))
    (k : W p l e R s m args below meth c H locs cells slots Q (F0 m (pc + 3) ls (.ref q :: rest))) : W p l e R s m args below meth c H locs cells slots Q (F0 m pc ls rest) := by
  intro T hT X
  obtain ⟨t, a1, b1⟩ := k T hT X
  exact ⟨t, X.ldcStringW hexec hown (text := tx) (a := q) hZ.1 hZ.2 (g := F0 m pc ls rest) rfl (by rw [hb]; exact hdg) t a1, b1⟩
end RW6

abbrev rm_ST_coder : Room := { frames := 0, cells := 0, slots := 0, locals := 0 }
abbrev b_ST_coder : ByteArray := prog_34_method_152_code
def y_ST_coder : MethodName := ⟨"java/lang/String", "coder", "()B"⟩
def w_ST_coder : List Cond := [.code ⟨"java/lang/String", "coder", "()B"⟩ prog_34_method_152_code 1 (some .byte), .fieldLink "java/lang/String" 38 "java/lang/String" "COMPACT_STRINGS" "Z", .fieldLink "java/lang/String" 15 "java/lang/String" "coder" "B"]
theorem d_ST_coder_0 : decode b_ST_coder 0 = .ok (.getstatic 38, 3) := by decide +kernel
theorem d_ST_coder_3 : decode b_ST_coder 3 = .ok (.ifCond .eq 10, 3) := by decide +kernel
theorem d_ST_coder_6 : decode b_ST_coder 6 = .ok (.aload_n 0, 1) := by decide +kernel
theorem d_ST_coder_7 : decode b_ST_coder 7 = .ok (.getfield 15, 3) := by decide +kernel
theorem d_ST_coder_10 : decode b_ST_coder 10 = .ok (.goto 4, 3) := by decide +kernel
theorem d_ST_coder_14 : decode b_ST_coder 14 = .ok (.ireturn, 1) := by decide +kernel
set_option maxHeartbeats 4000000 in
set_option maxRecDepth 100000 in
theorem c_ST_coder (l : Launch) (sa : Nat) : Met l y_ST_coder w_ST_coder rm_ST_coder (va_Pc [.ref sa] (fun U => va_OF "java/lang/String" "coder" "B" (.int 0) sa (fun _ => False) U U.heap ∧ va_Z "java/lang/String" "COMPACT_STRINGS" "Z" (.int 1) (fun _ => False) U U.heap)) (vp_Si (fun r => r = 0)) 0 0 (fun _ => False) := by
  refine Met.ofW (cc := b_ST_coder) (maxL := 1) (ret := (some .byte)) (by decide) rfl ?_
  intro p e s m args below meth c s₁ B hml hv
  obtain ⟨rfl, hE0, hE1⟩ := hv
  have hx := B.exec
  have hb := B.bytes
  have hr := B.returns
  have hts := atoms_spec (ws := w_ST_coder) B.pre
  have hown : s.vm.findClass "java/lang/String" = some m.cls := findClass_of_methodNamed B.named
  have hlocks := B.notSynchronized
  have hl := lv_entry ([.ref sa]) (n := 1) (Nat.le_of_ble_eq_true rfl)
  rw [lg_entry_eq]
  generalize (lg_sl ([.ref sa]) ++ List.replicate (1 - (lg_sl ([.ref sa])).length) Slot.unset).toArray = ls at hl ⊢
  have hl : lv_has ls 1 [(0, .ref sa)] := hl
  refine va_gets (v := .int 1) hx hb hE1 (va_S.rf (A := fun _ => False)) hown (hts (.fieldLink "java/lang/String" 38 "java/lang/String" "COMPACT_STRINGS" "Z") (List.mem_of_getElem? (i := 1) rfl)) (fun _ h9 => h9) d_ST_coder_0 ?_
  refine lv_if_eq (tgt := 13) hx hb d_ST_coder_3 (by decide) (fun c_3 => ?_) (fun c_3 => ?_)
  · exact absurd c_3 (by decide)
  · skip
    refine lv_aload_n hx hb d_ST_coder_6 rfl (lv_at hl 0 rfl) ?_
    refine vk_getf (v := .int 0) hx hb hE0 (va_S.rf (A := fun _ => False)) hown (hts (.fieldLink "java/lang/String" 15 "java/lang/String" "coder" "B") (List.mem_of_getElem? (i := 2) rfl)) (fun _ h9 => h9) d_ST_coder_7 ?_
    refine lv_goto (tgt := 14) hx hb d_ST_coder_10 (by decide) ?_
    exact W.zret hx hb hr rfl (fun t ht hW => ⟨_, rfl, rfl, ht⟩) (fun _ h => by cases h) d_ST_coder_14

abbrev rm_ST_isLatin1 : Room := { frames := 0, cells := 0, slots := 0, locals := 0 }
abbrev b_ST_isLatin1 : ByteArray := prog_34_method_154_code
def y_ST_isLatin1 : MethodName := ⟨"java/lang/String", "isLatin1", "()Z"⟩
def w_ST_isLatin1 : List Cond := [.code ⟨"java/lang/String", "isLatin1", "()Z"⟩ prog_34_method_154_code 1 (some .boolean), .fieldLink "java/lang/String" 38 "java/lang/String" "COMPACT_STRINGS" "Z", .fieldLink "java/lang/String" 15 "java/lang/String" "coder" "B"]
theorem d_ST_isLatin1_0 : decode b_ST_isLatin1 0 = .ok (.getstatic 38, 3) := by decide +kernel
theorem d_ST_isLatin1_3 : decode b_ST_isLatin1 3 = .ok (.ifCond .eq 14, 3) := by decide +kernel
theorem d_ST_isLatin1_6 : decode b_ST_isLatin1 6 = .ok (.aload_n 0, 1) := by decide +kernel
theorem d_ST_isLatin1_7 : decode b_ST_isLatin1 7 = .ok (.getfield 15, 3) := by decide +kernel
theorem d_ST_isLatin1_10 : decode b_ST_isLatin1 10 = .ok (.ifCond .ne 7, 3) := by decide +kernel
theorem d_ST_isLatin1_13 : decode b_ST_isLatin1 13 = .ok (.iconst 1, 1) := by decide +kernel
theorem d_ST_isLatin1_14 : decode b_ST_isLatin1 14 = .ok (.goto 4, 3) := by decide +kernel
theorem d_ST_isLatin1_18 : decode b_ST_isLatin1 18 = .ok (.ireturn, 1) := by decide +kernel
set_option maxHeartbeats 4000000 in
set_option maxRecDepth 100000 in
theorem c_ST_isLatin1 (l : Launch) (sa : Nat) : Met l y_ST_isLatin1 w_ST_isLatin1 rm_ST_isLatin1 (va_Pc [.ref sa] (fun U => va_OF "java/lang/String" "coder" "B" (.int 0) sa (fun _ => False) U U.heap ∧ va_Z "java/lang/String" "COMPACT_STRINGS" "Z" (.int 1) (fun _ => False) U U.heap)) (vp_Si (fun r => r = 1)) 0 0 (fun _ => False) := by
  refine Met.ofW (cc := b_ST_isLatin1) (maxL := 1) (ret := (some .boolean)) (by decide) rfl ?_
  intro p e s m args below meth c s₁ B hml hv
  obtain ⟨rfl, hE0, hE1⟩ := hv
  have hx := B.exec
  have hb := B.bytes
  have hr := B.returns
  have hts := atoms_spec (ws := w_ST_isLatin1) B.pre
  have hown : s.vm.findClass "java/lang/String" = some m.cls := findClass_of_methodNamed B.named
  have hlocks := B.notSynchronized
  have hl := lv_entry ([.ref sa]) (n := 1) (Nat.le_of_ble_eq_true rfl)
  rw [lg_entry_eq]
  generalize (lg_sl ([.ref sa]) ++ List.replicate (1 - (lg_sl ([.ref sa])).length) Slot.unset).toArray = ls at hl ⊢
  have hl : lv_has ls 1 [(0, .ref sa)] := hl
  refine va_gets (v := .int 1) hx hb hE1 (va_S.rf (A := fun _ => False)) hown (hts (.fieldLink "java/lang/String" 38 "java/lang/String" "COMPACT_STRINGS" "Z") (List.mem_of_getElem? (i := 1) rfl)) (fun _ h9 => h9) d_ST_isLatin1_0 ?_
  refine lv_if_eq (tgt := 17) hx hb d_ST_isLatin1_3 (by decide) (fun c_3 => ?_) (fun c_3 => ?_)
  · exact absurd c_3 (by decide)
  · skip
    refine lv_aload_n hx hb d_ST_isLatin1_6 rfl (lv_at hl 0 rfl) ?_
    refine vk_getf (v := .int 0) hx hb hE0 (va_S.rf (A := fun _ => False)) hown (hts (.fieldLink "java/lang/String" 15 "java/lang/String" "coder" "B") (List.mem_of_getElem? (i := 2) rfl)) (fun _ h9 => h9) d_ST_isLatin1_7 ?_
    refine lv_if_ne (tgt := 17) hx hb d_ST_isLatin1_10 (by decide) (fun c_10 => ?_) (fun c_10 => ?_)
    · exact absurd c_10 (by decide)
    · skip
      refine lv_iconst (v := 1) hx hb d_ST_isLatin1_13 (by decide) ?_
      refine lv_goto (tgt := 18) hx hb d_ST_isLatin1_14 (by decide) ?_
      exact W.zret hx hb hr rfl (fun t ht hW => ⟨_, rfl, rfl, ht⟩) (fun _ h => by cases h) d_ST_isLatin1_18

abbrev rm_ST_length : Room := { frames := 1, cells := 0, slots := 0, locals := 20 }
abbrev b_ST_length : ByteArray := prog_34_method_54_code
def y_ST_length : MethodName := ⟨"java/lang/String", "length", "()I"⟩
def w_ST_length : List Cond := [.code ⟨"java/lang/String", "length", "()I"⟩ prog_34_method_54_code 1 (some .int), .fieldLink "java/lang/String" 9 "java/lang/String" "value" "[B", .methodLink "java/lang/String" 335 ⟨"java/lang/String", "coder", "()B"⟩, .instanceMethod ⟨"java/lang/String", "coder", "()B"⟩, .selects "java/lang/String" ⟨"java/lang/String", "coder", "()B"⟩ ⟨"java/lang/String", "coder", "()B"⟩, .initialized "java/lang/String", .code ⟨"java/lang/String", "coder", "()B"⟩ prog_34_method_152_code 1 (some .byte), .fieldLink "java/lang/String" 38 "java/lang/String" "COMPACT_STRINGS" "Z", .fieldLink "java/lang/String" 15 "java/lang/String" "coder" "B"]
theorem d_ST_length_0 : decode b_ST_length 0 = .ok (.aload_n 0, 1) := by decide +kernel
theorem d_ST_length_1 : decode b_ST_length 1 = .ok (.getfield 9, 3) := by decide +kernel
theorem d_ST_length_4 : decode b_ST_length 4 = .ok (.arraylength, 1) := by decide +kernel
theorem d_ST_length_5 : decode b_ST_length 5 = .ok (.aload_n 0, 1) := by decide +kernel
theorem d_ST_length_6 : decode b_ST_length 6 = .ok (.invokevirtual 335, 3) := by decide +kernel
theorem d_ST_length_9 : decode b_ST_length 9 = .ok (.ishr, 1) := by decide +kernel
theorem d_ST_length_10 : decode b_ST_length 10 = .ok (.ireturn, 1) := by decide +kernel
set_option maxRecDepth 20000 in
theorem g_ST_length_6 : GoodIn w_ST_length (wsV "java/lang/String" 335 "java/lang/String" ⟨"java/lang/String", "coder", "()B"⟩ w_ST_coder) := goodIn_r _ [2, 3, 4, 5, 6, 7, 8] rfl (by decide +kernel)
set_option maxHeartbeats 4000000 in
set_option maxRecDepth 100000 in
theorem c_ST_length (l : Launch) (sa : Nat) (va : Nat) : Met l y_ST_length w_ST_length rm_ST_length (va_Pc [.ref sa] (fun U => va_O "java/lang/String" sa (fun _ => False) U U.heap ∧ va_OF "java/lang/String" "value" "[B" (.ref va) sa (fun _ => False) U U.heap ∧ va_OF "java/lang/String" "coder" "B" (.int 0) sa (fun _ => False) U U.heap ∧ va_T .byte va 16 kb (fun _ => False) U U.heap ∧ va_Z "java/lang/String" "COMPACT_STRINGS" "Z" (.int 1) (fun _ => False) U U.heap)) (vp_Si (fun r => r = 16)) 0 0 (fun _ => False) := by
  refine Met.ofW (cc := b_ST_length) (maxL := 1) (ret := (some .int)) (by decide) rfl ?_
  intro p e s m args below meth c s₁ B hml hv
  obtain ⟨rfl, hE0, hE1, hE2, hE3, hE4⟩ := hv
  have hx := B.exec
  have hb := B.bytes
  have hr := B.returns
  have hts := atoms_spec (ws := w_ST_length) B.pre
  have hown : s.vm.findClass "java/lang/String" = some m.cls := findClass_of_methodNamed B.named
  have hlocks := B.notSynchronized
  have hl := lv_entry ([.ref sa]) (n := 1) (Nat.le_of_ble_eq_true rfl)
  rw [lg_entry_eq]
  generalize (lg_sl ([.ref sa]) ++ List.replicate (1 - (lg_sl ([.ref sa])).length) Slot.unset).toArray = ls at hl ⊢
  have hl : lv_has ls 1 [(0, .ref sa)] := hl
  refine lv_aload_n hx hb d_ST_length_0 rfl (lv_at hl 0 rfl) ?_
  refine vk_getf (v := .ref va) hx hb hE1 (va_S.rf (A := fun _ => False)) hown (hts (.fieldLink "java/lang/String" 9 "java/lang/String" "value" "[B") (List.mem_of_getElem? (i := 1) rfl)) (fun _ h9 => h9) d_ST_length_1 ?_
  refine va_tlen (v := 16) hx hb hE3 (va_S.rf (A := fun _ => False)) (by decide) d_ST_length_4 ?_
  refine lv_aload_n hx hb d_ST_length_5 rfl (lv_at hl 0 rfl) ?_
  refine vp_callSi (W.runV (As := []) (rest := [.int 16]) ⟨hx, hb, hml, hown, hts⟩ (c_ST_coder l sa) (cwV 0 hts g_ST_length_6 rfl rfl rfl (by decide +kernel) ⟨Nat.le_of_ble_eq_true rfl, Nat.le_of_ble_eq_true rfl⟩) ⟨fun a U g mk z => by obtain ⟨z0, zE0, zE1⟩ := z; exact ⟨z0, zE0.moved (u := U) (U := U.calling g mk a) (Vm.Alike.refl U.vm), zE1.moved (u := U) (U := U.calling g mk a) (Vm.Alike.refl U.vm)⟩, va_Orecv hE0 (va_S.rf (A := fun _ => False)), fun U hU hW => ⟨rfl, by have q9 := hE2.moved hW.alike; rw [← hU] at q9; exact q9, by have q9 := hE4.moved hW.alike; rw [← hU] at q9; exact q9⟩⟩ rfl rfl hl.1 rfl (lv_room (Nat.le_of_ble_eq_true rfl)) d_ST_length_6 ⟨(Nat.le_of_ble_eq_true rfl), (Nat.le_of_ble_eq_true rfl)⟩) (fun r1 hr1 => ?_)
  replace hr1 := hr1.symm; subst hr1
  refine lv_ishr hx hb d_ST_length_9 ?_
  refine lv_topi (fun x2 ex2 => ?_)
  exact W.iret hx hb hr (fun t ht hW => ⟨_, rfl, (by rw [ex2]; decide), ht⟩) (fun _ h => by cases h) d_ST_length_10

abbrev rm_PC_checkN : Room := { frames := 0, cells := 0, slots := 0, locals := 0 }
abbrev b_PC_checkN : ByteArray := prog_81_method_11_code
def y_PC_checkN : MethodName := ⟨"jdk/internal/util/Preconditions", "checkIndex", "(IILjava/util/function/BiFunction;)I"⟩
def w_PC_checkN : List Cond := [.code ⟨"jdk/internal/util/Preconditions", "checkIndex", "(IILjava/util/function/BiFunction;)I"⟩ prog_81_method_11_code 3 (some .int)]
theorem d_PC_checkN_0 : decode b_PC_checkN 0 = .ok (.iload_n 0, 1) := by decide +kernel
theorem d_PC_checkN_1 : decode b_PC_checkN 1 = .ok (.ifCond .lt 8, 3) := by decide +kernel
theorem d_PC_checkN_4 : decode b_PC_checkN 4 = .ok (.iload_n 0, 1) := by decide +kernel
theorem d_PC_checkN_5 : decode b_PC_checkN 5 = .ok (.iload_n 1, 1) := by decide +kernel
theorem d_PC_checkN_6 : decode b_PC_checkN 6 = .ok (.if_icmp .lt 10, 3) := by decide +kernel
theorem d_PC_checkN_16 : decode b_PC_checkN 16 = .ok (.iload_n 0, 1) := by decide +kernel
theorem d_PC_checkN_17 : decode b_PC_checkN 17 = .ok (.ireturn, 1) := by decide +kernel
set_option maxHeartbeats 4000000 in
set_option maxRecDepth 100000 in
theorem c_PC_checkN (l : Launch) (x : Int32) (n : Int32) (h1 : ¬ x < 0) (h2 : x < n) : Met l y_PC_checkN w_PC_checkN rm_PC_checkN (va_Pc [.int x, .int n, .null] (fun U => True)) (vp_Si (fun r => r = x)) 0 0 (fun _ => False) := by
  refine Met.ofW (cc := b_PC_checkN) (maxL := 3) (ret := (some .int)) (by decide) rfl ?_
  intro p e s m args below meth c s₁ B hml hv
  obtain ⟨rfl, -⟩ := hv
  have hx := B.exec
  have hb := B.bytes
  have hr := B.returns
  have hts := atoms_spec (ws := w_PC_checkN) B.pre
  have hown : s.vm.findClass "jdk/internal/util/Preconditions" = some m.cls := findClass_of_methodNamed B.named
  have hlocks := B.notSynchronized
  have hl := lv_entry ([.int x, .int n, .null]) (n := 3) (Nat.le_of_ble_eq_true rfl)
  rw [lg_entry_eq]
  generalize (lg_sl ([.int x, .int n, .null]) ++ List.replicate (3 - (lg_sl ([.int x, .int n, .null])).length) Slot.unset).toArray = ls at hl ⊢
  have hl : lv_has ls 3 [(0, .int x), (1, .int n), (2, .null)] := hl
  refine lv_iload_n hx hb d_PC_checkN_0 rfl (lv_at hl 0 rfl) ?_
  refine lv_if_lt (tgt := 9) hx hb d_PC_checkN_1 (by decide) (fun c_1 => ?_) (fun c_1 => ?_)
  · exact absurd c_1 h1
  · skip
    refine lv_iload_n hx hb d_PC_checkN_4 rfl (lv_at hl 0 rfl) ?_
    refine lv_iload_n hx hb d_PC_checkN_5 rfl (lv_at hl 1 rfl) ?_
    refine lv_icmp_lt (tgt := 16) hx hb d_PC_checkN_6 (by decide) (fun c_6 => ?_) (fun c_6 => ?_)
    · skip
      refine lv_iload_n hx hb d_PC_checkN_16 rfl (lv_at hl 0 rfl) ?_
      exact W.iret hx hb hr (fun t ht hW => ⟨_, rfl, rfl, ht⟩) (fun _ h => by cases h) d_PC_checkN_17
    · exact absurd h2 c_6

abbrev rm_PC_checkR : Room := { frames := 0, cells := 0, slots := 0, locals := 0 }
abbrev b_PC_checkR : ByteArray := prog_81_method_11_code
def y_PC_checkR : MethodName := ⟨"jdk/internal/util/Preconditions", "checkIndex", "(IILjava/util/function/BiFunction;)I"⟩
def w_PC_checkR : List Cond := [.code ⟨"jdk/internal/util/Preconditions", "checkIndex", "(IILjava/util/function/BiFunction;)I"⟩ prog_81_method_11_code 3 (some .int)]
theorem d_PC_checkR_0 : decode b_PC_checkR 0 = .ok (.iload_n 0, 1) := by decide +kernel
theorem d_PC_checkR_1 : decode b_PC_checkR 1 = .ok (.ifCond .lt 8, 3) := by decide +kernel
theorem d_PC_checkR_4 : decode b_PC_checkR 4 = .ok (.iload_n 0, 1) := by decide +kernel
theorem d_PC_checkR_5 : decode b_PC_checkR 5 = .ok (.iload_n 1, 1) := by decide +kernel
theorem d_PC_checkR_6 : decode b_PC_checkR 6 = .ok (.if_icmp .lt 10, 3) := by decide +kernel
theorem d_PC_checkR_16 : decode b_PC_checkR 16 = .ok (.iload_n 0, 1) := by decide +kernel
theorem d_PC_checkR_17 : decode b_PC_checkR 17 = .ok (.ireturn, 1) := by decide +kernel
set_option maxHeartbeats 4000000 in
set_option maxRecDepth 100000 in
theorem c_PC_checkR (l : Launch) (x : Int32) (n : Int32) (t0 : Nat) (h1 : ¬ x < 0) (h2 : x < n) : Met l y_PC_checkR w_PC_checkR rm_PC_checkR (va_Pc [.int x, .int n, .ref t0] (fun U => True)) (vp_Si (fun r => r = x)) 0 0 (fun _ => False) := by
  refine Met.ofW (cc := b_PC_checkR) (maxL := 3) (ret := (some .int)) (by decide) rfl ?_
  intro p e s m args below meth c s₁ B hml hv
  obtain ⟨rfl, -⟩ := hv
  have hx := B.exec
  have hb := B.bytes
  have hr := B.returns
  have hts := atoms_spec (ws := w_PC_checkR) B.pre
  have hown : s.vm.findClass "jdk/internal/util/Preconditions" = some m.cls := findClass_of_methodNamed B.named
  have hlocks := B.notSynchronized
  have hl := lv_entry ([.int x, .int n, .ref t0]) (n := 3) (Nat.le_of_ble_eq_true rfl)
  rw [lg_entry_eq]
  generalize (lg_sl ([.int x, .int n, .ref t0]) ++ List.replicate (3 - (lg_sl ([.int x, .int n, .ref t0])).length) Slot.unset).toArray = ls at hl ⊢
  have hl : lv_has ls 3 [(0, .int x), (1, .int n), (2, .ref t0)] := hl
  refine lv_iload_n hx hb d_PC_checkR_0 rfl (lv_at hl 0 rfl) ?_
  refine lv_if_lt (tgt := 9) hx hb d_PC_checkR_1 (by decide) (fun c_1 => ?_) (fun c_1 => ?_)
  · exact absurd c_1 h1
  · skip
    refine lv_iload_n hx hb d_PC_checkR_4 rfl (lv_at hl 0 rfl) ?_
    refine lv_iload_n hx hb d_PC_checkR_5 rfl (lv_at hl 1 rfl) ?_
    refine lv_icmp_lt (tgt := 16) hx hb d_PC_checkR_6 (by decide) (fun c_6 => ?_) (fun c_6 => ?_)
    · skip
      refine lv_iload_n hx hb d_PC_checkR_16 rfl (lv_at hl 0 rfl) ?_
      exact W.iret hx hb hr (fun t ht hW => ⟨_, rfl, rfl, ht⟩) (fun _ h => by cases h) d_PC_checkR_17
    · exact absurd h2 c_6

abbrev rm_ST_checkIndex : Room := { frames := 1, cells := 0, slots := 0, locals := 22 }
abbrev b_ST_checkIndex : ByteArray := prog_34_method_155_code
def y_ST_checkIndex : MethodName := ⟨"java/lang/String", "checkIndex", "(II)V"⟩
def w_ST_checkIndex : List Cond := [.code ⟨"java/lang/String", "checkIndex", "(II)V"⟩ prog_34_method_155_code 2 none, .fieldLink "java/lang/String" 1053 "jdk/internal/util/Preconditions" "SIOOBE_FORMATTER" "Ljava/util/function/BiFunction;", .methodLink "java/lang/String" 1059 ⟨"jdk/internal/util/Preconditions", "checkIndex", "(IILjava/util/function/BiFunction;)I"⟩, .static ⟨"jdk/internal/util/Preconditions", "checkIndex", "(IILjava/util/function/BiFunction;)I"⟩, .initialized "jdk/internal/util/Preconditions", .code ⟨"jdk/internal/util/Preconditions", "checkIndex", "(IILjava/util/function/BiFunction;)I"⟩ prog_81_method_11_code 3 (some .int)]
theorem d_ST_checkIndex_0 : decode b_ST_checkIndex 0 = .ok (.iload_n 0, 1) := by decide +kernel
theorem d_ST_checkIndex_1 : decode b_ST_checkIndex 1 = .ok (.iload_n 1, 1) := by decide +kernel
theorem d_ST_checkIndex_2 : decode b_ST_checkIndex 2 = .ok (.getstatic 1053, 3) := by decide +kernel
theorem d_ST_checkIndex_5 : decode b_ST_checkIndex 5 = .ok (.invokestatic 1059, 3) := by decide +kernel
theorem d_ST_checkIndex_8 : decode b_ST_checkIndex 8 = .ok (.pop, 1) := by decide +kernel
theorem d_ST_checkIndex_9 : decode b_ST_checkIndex 9 = .ok (.return_, 1) := by decide +kernel
set_option maxRecDepth 20000 in
theorem g_ST_checkIndex_5PC_checkN : GoodIn w_ST_checkIndex (va_wsS "java/lang/String" 1059 ⟨"jdk/internal/util/Preconditions", "checkIndex", "(IILjava/util/function/BiFunction;)I"⟩ w_PC_checkN) := goodIn_r _ [2, 3, 4, 5] rfl (by decide +kernel)
set_option maxRecDepth 20000 in
theorem g_ST_checkIndex_5PC_checkR : GoodIn w_ST_checkIndex (va_wsS "java/lang/String" 1059 ⟨"jdk/internal/util/Preconditions", "checkIndex", "(IILjava/util/function/BiFunction;)I"⟩ w_PC_checkR) := goodIn_r _ [2, 3, 4, 5] rfl (by decide +kernel)
set_option maxHeartbeats 4000000 in
set_option maxRecDepth 100000 in
theorem c_ST_checkIndex (l : Launch) (x : Int32) (n : Int32) (h1 : ¬ x < 0) (h2 : x < n) : Met l y_ST_checkIndex w_ST_checkIndex rm_ST_checkIndex (va_Pc [.int x, .int n] (fun U => va_Zq "jdk/internal/util/Preconditions" "SIOOBE_FORMATTER" "Ljava/util/function/BiFunction;" (fun _ => False) U U.heap)) (va_Sv (fun _ => True)) 0 0 (fun _ => False) := by
  refine Met.ofW (cc := b_ST_checkIndex) (maxL := 2) (ret := none) (by decide) rfl ?_
  intro p e s m args below meth c s₁ B hml hv
  obtain ⟨rfl, hE0⟩ := hv
  have hx := B.exec
  have hb := B.bytes
  have hr := B.returns
  have hts := atoms_spec (ws := w_ST_checkIndex) B.pre
  have hown : s.vm.findClass "java/lang/String" = some m.cls := findClass_of_methodNamed B.named
  have hlocks := B.notSynchronized
  have hl := lv_entry ([.int x, .int n]) (n := 2) (Nat.le_of_ble_eq_true rfl)
  rw [lg_entry_eq]
  generalize (lg_sl ([.int x, .int n]) ++ List.replicate (2 - (lg_sl ([.int x, .int n])).length) Slot.unset).toArray = ls at hl ⊢
  have hl : lv_has ls 2 [(0, .int x), (1, .int n)] := hl
  rcases hE0 with hZ | ⟨t0, hZ⟩
  · skip
    refine lv_iload_n hx hb d_ST_checkIndex_0 rfl (lv_at hl 0 rfl) ?_
    refine lv_iload_n hx hb d_ST_checkIndex_1 rfl (lv_at hl 1 rfl) ?_
    refine va_gets (v := .null) hx hb hZ (va_S.rf (A := fun _ => False)) hown (hts (.fieldLink "java/lang/String" 1053 "jdk/internal/util/Preconditions" "SIOOBE_FORMATTER" "Ljava/util/function/BiFunction;") (List.mem_of_getElem? (i := 1) rfl)) (fun _ h9 => h9) d_ST_checkIndex_2 ?_
    refine vp_callSi (W.runS (As := [.int x, .int n, .null]) (rest := []) ⟨hx, hb, hml, hown, hts⟩ (c_PC_checkN l x n h1 h2) (va_cwS 3 hts g_ST_checkIndex_5PC_checkN rfl rfl rfl (by decide +kernel) ⟨Nat.le_of_ble_eq_true rfl, Nat.le_of_ble_eq_true rfl⟩) ⟨fun a U g mk z => z, fun U hU hW => ⟨rfl, trivial⟩⟩ rfl rfl hl.1 rfl (lv_room (Nat.le_of_ble_eq_true rfl)) d_ST_checkIndex_5 ⟨(Nat.le_of_ble_eq_true rfl), (Nat.le_of_ble_eq_true rfl)⟩) (fun r1 hr1 => ?_)
    replace hr1 := hr1.symm; subst hr1
    refine lv_pop hx hb d_ST_checkIndex_8 rfl ?_
    exact W.vret hx hb hr (fun t ht hW => ⟨rfl, trivial, ht⟩) (fun _ h => by cases h) d_ST_checkIndex_9
  · skip
    refine lv_iload_n hx hb d_ST_checkIndex_0 rfl (lv_at hl 0 rfl) ?_
    refine lv_iload_n hx hb d_ST_checkIndex_1 rfl (lv_at hl 1 rfl) ?_
    refine va_gets (v := .ref t0) hx hb hZ (va_S.rf (A := fun _ => False)) hown (hts (.fieldLink "java/lang/String" 1053 "jdk/internal/util/Preconditions" "SIOOBE_FORMATTER" "Ljava/util/function/BiFunction;") (List.mem_of_getElem? (i := 1) rfl)) (fun _ h9 => h9) d_ST_checkIndex_2 ?_
    refine vp_callSi (W.runS (As := [.int x, .int n, .ref t0]) (rest := []) ⟨hx, hb, hml, hown, hts⟩ (c_PC_checkR l x n t0 h1 h2) (va_cwS 3 hts g_ST_checkIndex_5PC_checkR rfl rfl rfl (by decide +kernel) ⟨Nat.le_of_ble_eq_true rfl, Nat.le_of_ble_eq_true rfl⟩) ⟨fun a U g mk z => z, fun U hU hW => ⟨rfl, trivial⟩⟩ rfl rfl hl.1 rfl (lv_room (Nat.le_of_ble_eq_true rfl)) d_ST_checkIndex_5 ⟨(Nat.le_of_ble_eq_true rfl), (Nat.le_of_ble_eq_true rfl)⟩) (fun r2 hr2 => ?_)
    replace hr2 := hr2.symm; subst hr2
    refine lv_pop hx hb d_ST_checkIndex_8 rfl ?_
    exact W.vret hx hb hr (fun t ht hW => ⟨rfl, trivial, ht⟩) (fun _ h => by cases h) d_ST_checkIndex_9

abbrev rm_SL_charAt : Room := { frames := 2, cells := 0, slots := 0, locals := 43 }
abbrev b_SL_charAt : ByteArray := prog_36_method_2_code
def y_SL_charAt : MethodName := ⟨"java/lang/StringLatin1", "charAt", "([BI)C"⟩
def w_SL_charAt : List Cond := [.code ⟨"java/lang/StringLatin1", "charAt", "([BI)C"⟩ prog_36_method_2_code 2 (some .char), .methodLink "java/lang/StringLatin1" 9 ⟨"java/lang/String", "checkIndex", "(II)V"⟩, .static ⟨"java/lang/String", "checkIndex", "(II)V"⟩, .initialized "java/lang/String", .code ⟨"java/lang/String", "checkIndex", "(II)V"⟩ prog_34_method_155_code 2 none, .fieldLink "java/lang/String" 1053 "jdk/internal/util/Preconditions" "SIOOBE_FORMATTER" "Ljava/util/function/BiFunction;", .methodLink "java/lang/String" 1059 ⟨"jdk/internal/util/Preconditions", "checkIndex", "(IILjava/util/function/BiFunction;)I"⟩, .static ⟨"jdk/internal/util/Preconditions", "checkIndex", "(IILjava/util/function/BiFunction;)I"⟩, .initialized "jdk/internal/util/Preconditions", .code ⟨"jdk/internal/util/Preconditions", "checkIndex", "(IILjava/util/function/BiFunction;)I"⟩ prog_81_method_11_code 3 (some .int)]
theorem d_SL_charAt_0 : decode b_SL_charAt 0 = .ok (.iload_n 1, 1) := by decide +kernel
theorem d_SL_charAt_1 : decode b_SL_charAt 1 = .ok (.aload_n 0, 1) := by decide +kernel
theorem d_SL_charAt_2 : decode b_SL_charAt 2 = .ok (.arraylength, 1) := by decide +kernel
theorem d_SL_charAt_3 : decode b_SL_charAt 3 = .ok (.invokestatic 9, 3) := by decide +kernel
theorem d_SL_charAt_6 : decode b_SL_charAt 6 = .ok (.aload_n 0, 1) := by decide +kernel
theorem d_SL_charAt_7 : decode b_SL_charAt 7 = .ok (.iload_n 1, 1) := by decide +kernel
theorem d_SL_charAt_8 : decode b_SL_charAt 8 = .ok (.baload, 1) := by decide +kernel
theorem d_SL_charAt_9 : decode b_SL_charAt 9 = .ok (.sipush 255, 3) := by decide +kernel
theorem d_SL_charAt_12 : decode b_SL_charAt 12 = .ok (.iand, 1) := by decide +kernel
theorem d_SL_charAt_13 : decode b_SL_charAt 13 = .ok (.i2c, 1) := by decide +kernel
theorem d_SL_charAt_14 : decode b_SL_charAt 14 = .ok (.ireturn, 1) := by decide +kernel
set_option maxRecDepth 20000 in
theorem g_SL_charAt_3 : GoodIn w_SL_charAt (va_wsS "java/lang/StringLatin1" 9 ⟨"java/lang/String", "checkIndex", "(II)V"⟩ w_ST_checkIndex) := goodIn_r _ [1, 2, 3, 4, 5, 6, 7, 8, 9] rfl (by decide +kernel)
set_option maxHeartbeats 4000000 in
set_option maxRecDepth 100000 in
theorem c_SL_charAt (l : Launch) (va : Nat) (x : Int32) (k : Nat) (hk : k < 16) (hxk : x = nI k) : Met l y_SL_charAt w_SL_charAt rm_SL_charAt (va_Pc [.ref va, .int x] (fun U => va_T .byte va 16 kb (fun _ => False) U U.heap ∧ va_Zq "jdk/internal/util/Preconditions" "SIOOBE_FORMATTER" "Ljava/util/function/BiFunction;" (fun _ => False) U U.heap)) (vp_Si (fun r => r = kbv k)) 0 0 (fun _ => False) := by
  refine Met.ofW (cc := b_SL_charAt) (maxL := 2) (ret := (some .char)) (by decide) rfl ?_
  intro p e s m args below meth c s₁ B hml hv
  obtain ⟨rfl, hE0, hE1⟩ := hv
  have hx := B.exec
  have hb := B.bytes
  have hr := B.returns
  have hts := atoms_spec (ws := w_SL_charAt) B.pre
  have hown : s.vm.findClass "java/lang/StringLatin1" = some m.cls := findClass_of_methodNamed B.named
  have hlocks := B.notSynchronized
  have hl := lv_entry ([.ref va, .int x]) (n := 2) (Nat.le_of_ble_eq_true rfl)
  rw [lg_entry_eq]
  generalize (lg_sl ([.ref va, .int x]) ++ List.replicate (2 - (lg_sl ([.ref va, .int x])).length) Slot.unset).toArray = ls at hl ⊢
  have hl : lv_has ls 2 [(0, .ref va), (1, .int x)] := hl
  refine lv_iload_n hx hb d_SL_charAt_0 rfl (lv_at hl 1 rfl) ?_
  refine lv_aload_n hx hb d_SL_charAt_1 rfl (lv_at hl 0 rfl) ?_
  refine va_tlen (v := 16) hx hb hE0 (va_S.rf (A := fun _ => False)) (by decide) d_SL_charAt_2 ?_
  refine va_csv (W.runS (As := [.int x, .int 16]) (rest := []) ⟨hx, hb, hml, hown, hts⟩ (c_ST_checkIndex l x 16 (by rw [hxk]; exact nI_pos (by omega)) (by rw [hxk]; exact (show nI k < nI 16 from nI_lt hk (by omega)))) (va_cwS 2 hts g_SL_charAt_3 rfl rfl rfl (by decide +kernel) ⟨Nat.le_of_ble_eq_true rfl, Nat.le_of_ble_eq_true rfl⟩) ⟨fun a U g mk z => by obtain ⟨z0, zE0⟩ := z; exact ⟨z0, zE0.moved (u := U) (U := U.calling g mk a) (Vm.Alike.refl U.vm)⟩, fun U hU hW => ⟨rfl, by have q9 := hE1.moved hW.alike; rw [← hU] at q9; exact q9⟩⟩ rfl rfl hl.1 rfl (lv_room (Nat.le_of_ble_eq_true rfl)) d_SL_charAt_3 ⟨(Nat.le_of_ble_eq_true rfl), (Nat.le_of_ble_eq_true rfl)⟩) (fun hr1 => ?_)
  refine lv_aload_n hx hb d_SL_charAt_6 rfl (lv_at hl 0 rfl) ?_
  refine lv_iload_n hx hb d_SL_charAt_7 rfl (lv_at hl 1 rfl) ?_
  refine va_tb (v := .int (kbv (x).toNatClampNeg)) hx hb hE0 (va_S.rf (A := fun _ => False)) (by rw [hxk]; exact vp_in_nI hk (by omega)) rfl d_SL_charAt_8 ?_
  refine lv_topi (fun x2 ex2 => ?_)
  refine lv_sipush (v := 255) hx hb d_SL_charAt_9 (by decide) ?_
  refine lv_iand hx hb d_SL_charAt_12 ?_
  refine lv_topi (fun x3 ex3 => ?_)
  refine lv_i2c hx hb d_SL_charAt_13 rfl ?_
  refine lv_topi (fun x4 ex4 => ?_)
  have hfin : x4 = kbv k := by rw [ex4, ex3, ex2, hxk, nI_clamp (by omega)]; exact kb_fix k hk
  exact W.zret hx hb hr (by rw [hfin]; exact kb_nar k hk) (fun t ht hW => ⟨_, rfl, hfin, ht⟩) (fun _ h => by cases h) d_SL_charAt_14

abbrev rm_ST_charAt : Room := { frames := 3, cells := 0, slots := 0, locals := 64 }
abbrev b_ST_charAt : ByteArray := prog_34_method_56_code
def y_ST_charAt : MethodName := ⟨"java/lang/String", "charAt", "(I)C"⟩
def w_ST_charAt : List Cond := [.code ⟨"java/lang/String", "charAt", "(I)C"⟩ prog_34_method_56_code 2 (some .char), .methodLink "java/lang/String" 492 ⟨"java/lang/String", "isLatin1", "()Z"⟩, .instanceMethod ⟨"java/lang/String", "isLatin1", "()Z"⟩, .selects "java/lang/String" ⟨"java/lang/String", "isLatin1", "()Z"⟩ ⟨"java/lang/String", "isLatin1", "()Z"⟩, .initialized "java/lang/String", .code ⟨"java/lang/String", "isLatin1", "()Z"⟩ prog_34_method_154_code 1 (some .boolean), .fieldLink "java/lang/String" 38 "java/lang/String" "COMPACT_STRINGS" "Z", .fieldLink "java/lang/String" 15 "java/lang/String" "coder" "B", .fieldLink "java/lang/String" 9 "java/lang/String" "value" "[B", .methodLink "java/lang/String" 495 ⟨"java/lang/StringLatin1", "charAt", "([BI)C"⟩, .static ⟨"java/lang/StringLatin1", "charAt", "([BI)C"⟩, .initialized "java/lang/StringLatin1", .code ⟨"java/lang/StringLatin1", "charAt", "([BI)C"⟩ prog_36_method_2_code 2 (some .char), .methodLink "java/lang/StringLatin1" 9 ⟨"java/lang/String", "checkIndex", "(II)V"⟩, .static ⟨"java/lang/String", "checkIndex", "(II)V"⟩, .code ⟨"java/lang/String", "checkIndex", "(II)V"⟩ prog_34_method_155_code 2 none, .fieldLink "java/lang/String" 1053 "jdk/internal/util/Preconditions" "SIOOBE_FORMATTER" "Ljava/util/function/BiFunction;", .methodLink "java/lang/String" 1059 ⟨"jdk/internal/util/Preconditions", "checkIndex", "(IILjava/util/function/BiFunction;)I"⟩, .static ⟨"jdk/internal/util/Preconditions", "checkIndex", "(IILjava/util/function/BiFunction;)I"⟩, .initialized "jdk/internal/util/Preconditions", .code ⟨"jdk/internal/util/Preconditions", "checkIndex", "(IILjava/util/function/BiFunction;)I"⟩ prog_81_method_11_code 3 (some .int)]
theorem d_ST_charAt_0 : decode b_ST_charAt 0 = .ok (.aload_n 0, 1) := by decide +kernel
theorem d_ST_charAt_1 : decode b_ST_charAt 1 = .ok (.invokevirtual 492, 3) := by decide +kernel
theorem d_ST_charAt_4 : decode b_ST_charAt 4 = .ok (.ifCond .eq 12, 3) := by decide +kernel
theorem d_ST_charAt_7 : decode b_ST_charAt 7 = .ok (.aload_n 0, 1) := by decide +kernel
theorem d_ST_charAt_8 : decode b_ST_charAt 8 = .ok (.getfield 9, 3) := by decide +kernel
theorem d_ST_charAt_11 : decode b_ST_charAt 11 = .ok (.iload_n 1, 1) := by decide +kernel
theorem d_ST_charAt_12 : decode b_ST_charAt 12 = .ok (.invokestatic 495, 3) := by decide +kernel
theorem d_ST_charAt_15 : decode b_ST_charAt 15 = .ok (.ireturn, 1) := by decide +kernel
set_option maxRecDepth 20000 in
theorem g_ST_charAt_1 : GoodIn w_ST_charAt (wsV "java/lang/String" 492 "java/lang/String" ⟨"java/lang/String", "isLatin1", "()Z"⟩ w_ST_isLatin1) := goodIn_r _ [1, 2, 3, 4, 5, 6, 7] rfl (by decide +kernel)
set_option maxRecDepth 20000 in
theorem g_ST_charAt_12 : GoodIn w_ST_charAt (va_wsS "java/lang/String" 495 ⟨"java/lang/StringLatin1", "charAt", "([BI)C"⟩ w_SL_charAt) := goodIn_r _ [9, 10, 11, 12, 13, 14, 4, 15, 16, 17, 18, 19, 20] rfl (by decide +kernel)
set_option maxHeartbeats 4000000 in
set_option maxRecDepth 100000 in
theorem c_ST_charAt (l : Launch) (sa : Nat) (va : Nat) (x : Int32) (k : Nat) (hk : k < 16) (hxk : x = nI k) : Met l y_ST_charAt w_ST_charAt rm_ST_charAt (va_Pc [.ref sa, .int x] (fun U => va_O "java/lang/String" sa (fun _ => False) U U.heap ∧ va_OF "java/lang/String" "value" "[B" (.ref va) sa (fun _ => False) U U.heap ∧ va_OF "java/lang/String" "coder" "B" (.int 0) sa (fun _ => False) U U.heap ∧ va_T .byte va 16 kb (fun _ => False) U U.heap ∧ va_Z "java/lang/String" "COMPACT_STRINGS" "Z" (.int 1) (fun _ => False) U U.heap ∧ va_Zq "jdk/internal/util/Preconditions" "SIOOBE_FORMATTER" "Ljava/util/function/BiFunction;" (fun _ => False) U U.heap)) (vp_Si (fun r => r = kbv k)) 0 0 (fun _ => False) := by
  refine Met.ofW (cc := b_ST_charAt) (maxL := 2) (ret := (some .char)) (by decide) rfl ?_
  intro p e s m args below meth c s₁ B hml hv
  obtain ⟨rfl, hE0, hE1, hE2, hE3, hE4, hE5⟩ := hv
  have hx := B.exec
  have hb := B.bytes
  have hr := B.returns
  have hts := atoms_spec (ws := w_ST_charAt) B.pre
  have hown : s.vm.findClass "java/lang/String" = some m.cls := findClass_of_methodNamed B.named
  have hlocks := B.notSynchronized
  have hl := lv_entry ([.ref sa, .int x]) (n := 2) (Nat.le_of_ble_eq_true rfl)
  rw [lg_entry_eq]
  generalize (lg_sl ([.ref sa, .int x]) ++ List.replicate (2 - (lg_sl ([.ref sa, .int x])).length) Slot.unset).toArray = ls at hl ⊢
  have hl : lv_has ls 2 [(0, .ref sa), (1, .int x)] := hl
  refine lv_aload_n hx hb d_ST_charAt_0 rfl (lv_at hl 0 rfl) ?_
  refine vp_callSi (W.runV (As := []) (rest := []) ⟨hx, hb, hml, hown, hts⟩ (c_ST_isLatin1 l sa) (cwV 0 hts g_ST_charAt_1 rfl rfl rfl (by decide +kernel) ⟨Nat.le_of_ble_eq_true rfl, Nat.le_of_ble_eq_true rfl⟩) ⟨fun a U g mk z => by obtain ⟨z0, zE0, zE1⟩ := z; exact ⟨z0, zE0.moved (u := U) (U := U.calling g mk a) (Vm.Alike.refl U.vm), zE1.moved (u := U) (U := U.calling g mk a) (Vm.Alike.refl U.vm)⟩, va_Orecv hE0 (va_S.rf (A := fun _ => False)), fun U hU hW => ⟨rfl, by have q9 := hE2.moved hW.alike; rw [← hU] at q9; exact q9, by have q9 := hE4.moved hW.alike; rw [← hU] at q9; exact q9⟩⟩ rfl rfl hl.1 rfl (lv_room (Nat.le_of_ble_eq_true rfl)) d_ST_charAt_1 ⟨(Nat.le_of_ble_eq_true rfl), (Nat.le_of_ble_eq_true rfl)⟩) (fun r1 hr1 => ?_)
  replace hr1 := hr1.symm; subst hr1
  refine lv_if_eq (tgt := 16) hx hb d_ST_charAt_4 (by decide) (fun c_4 => ?_) (fun c_4 => ?_)
  · exact absurd c_4 (by decide)
  · skip
    refine lv_aload_n hx hb d_ST_charAt_7 rfl (lv_at hl 0 rfl) ?_
    refine vk_getf (v := .ref va) hx hb hE1 (va_S.rf (A := fun _ => False)) hown (hts (.fieldLink "java/lang/String" 9 "java/lang/String" "value" "[B") (List.mem_of_getElem? (i := 8) rfl)) (fun _ h9 => h9) d_ST_charAt_8 ?_
    refine lv_iload_n hx hb d_ST_charAt_11 rfl (lv_at hl 1 rfl) ?_
    refine vp_callSi (W.runS (As := [.ref va, .int x]) (rest := []) ⟨hx, hb, hml, hown, hts⟩ (c_SL_charAt l va x k hk hxk) (va_cwS 2 hts g_ST_charAt_12 rfl rfl rfl (by decide +kernel) ⟨Nat.le_of_ble_eq_true rfl, Nat.le_of_ble_eq_true rfl⟩) ⟨fun a U g mk z => by obtain ⟨z0, zE0, zE1⟩ := z; exact ⟨z0, zE0.moved (u := U) (U := U.calling g mk a) (Vm.Alike.refl U.vm), zE1.moved (u := U) (U := U.calling g mk a) (Vm.Alike.refl U.vm)⟩, fun U hU hW => ⟨rfl, by have q9 := hE3.moved hW.alike; rw [← hU] at q9; exact q9, by have q9 := hE5.moved hW.alike; rw [← hU] at q9; exact q9⟩⟩ rfl rfl hl.1 rfl (lv_room (Nat.le_of_ble_eq_true rfl)) d_ST_charAt_12 ⟨(Nat.le_of_ble_eq_true rfl), (Nat.le_of_ble_eq_true rfl)⟩) (fun r2 hr2 => ?_)
    replace hr2 := hr2.symm; subst hr2
    exact W.zret hx hb hr (kb_nar k hk) (fun t ht hW => ⟨_, rfl, rfl, ht⟩) (fun _ h => by cases h) d_ST_charAt_15

abbrev rm_letterOf : Room := { frames := 4, cells := 0, slots := 0, locals := 85 }
abbrev b_letterOf : ByteArray := prog_6_method_3_code
def y_letterOf : MethodName := ⟨"Leastcode$Machine", "letterOf", "(I)C"⟩
def w_letterOf : List Cond := [.code ⟨"Leastcode$Machine", "letterOf", "(I)C"⟩ prog_6_method_3_code 1 (some .char), .methodLink "Leastcode$Machine" 69 ⟨"java/lang/String", "length", "()I"⟩, .instanceMethod ⟨"java/lang/String", "length", "()I"⟩, .selects "java/lang/String" ⟨"java/lang/String", "length", "()I"⟩ ⟨"java/lang/String", "length", "()I"⟩, .initialized "java/lang/String", .code ⟨"java/lang/String", "length", "()I"⟩ prog_34_method_54_code 1 (some .int), .fieldLink "java/lang/String" 9 "java/lang/String" "value" "[B", .methodLink "java/lang/String" 335 ⟨"java/lang/String", "coder", "()B"⟩, .instanceMethod ⟨"java/lang/String", "coder", "()B"⟩, .selects "java/lang/String" ⟨"java/lang/String", "coder", "()B"⟩ ⟨"java/lang/String", "coder", "()B"⟩, .code ⟨"java/lang/String", "coder", "()B"⟩ prog_34_method_152_code 1 (some .byte), .fieldLink "java/lang/String" 38 "java/lang/String" "COMPACT_STRINGS" "Z", .fieldLink "java/lang/String" 15 "java/lang/String" "coder" "B", .methodLink "Leastcode$Machine" 75 ⟨"java/lang/String", "charAt", "(I)C"⟩, .instanceMethod ⟨"java/lang/String", "charAt", "(I)C"⟩, .selects "java/lang/String" ⟨"java/lang/String", "charAt", "(I)C"⟩ ⟨"java/lang/String", "charAt", "(I)C"⟩, .code ⟨"java/lang/String", "charAt", "(I)C"⟩ prog_34_method_56_code 2 (some .char), .methodLink "java/lang/String" 492 ⟨"java/lang/String", "isLatin1", "()Z"⟩, .instanceMethod ⟨"java/lang/String", "isLatin1", "()Z"⟩, .selects "java/lang/String" ⟨"java/lang/String", "isLatin1", "()Z"⟩ ⟨"java/lang/String", "isLatin1", "()Z"⟩, .code ⟨"java/lang/String", "isLatin1", "()Z"⟩ prog_34_method_154_code 1 (some .boolean), .methodLink "java/lang/String" 495 ⟨"java/lang/StringLatin1", "charAt", "([BI)C"⟩, .static ⟨"java/lang/StringLatin1", "charAt", "([BI)C"⟩, .initialized "java/lang/StringLatin1", .code ⟨"java/lang/StringLatin1", "charAt", "([BI)C"⟩ prog_36_method_2_code 2 (some .char), .methodLink "java/lang/StringLatin1" 9 ⟨"java/lang/String", "checkIndex", "(II)V"⟩, .static ⟨"java/lang/String", "checkIndex", "(II)V"⟩, .code ⟨"java/lang/String", "checkIndex", "(II)V"⟩ prog_34_method_155_code 2 none, .fieldLink "java/lang/String" 1053 "jdk/internal/util/Preconditions" "SIOOBE_FORMATTER" "Ljava/util/function/BiFunction;", .methodLink "java/lang/String" 1059 ⟨"jdk/internal/util/Preconditions", "checkIndex", "(IILjava/util/function/BiFunction;)I"⟩, .static ⟨"jdk/internal/util/Preconditions", "checkIndex", "(IILjava/util/function/BiFunction;)I"⟩, .initialized "jdk/internal/util/Preconditions", .code ⟨"jdk/internal/util/Preconditions", "checkIndex", "(IILjava/util/function/BiFunction;)I"⟩ prog_81_method_11_code 3 (some .int)]
theorem d_letterOf_0 : decode b_letterOf 0 = .ok (.iload_n 0, 1) := by decide +kernel
theorem d_letterOf_1 : decode b_letterOf 1 = .ok (.ifCond .lt 21, 3) := by decide +kernel
theorem d_letterOf_4 : decode b_letterOf 4 = .ok (.iload_n 0, 1) := by decide +kernel
theorem d_letterOf_5 : decode b_letterOf 5 = .ok (.ldc 67, 2) := by decide +kernel
theorem d_letterOf_7 : decode b_letterOf 7 = .ok (.invokevirtual 69, 3) := by decide +kernel
theorem d_letterOf_10 : decode b_letterOf 10 = .ok (.if_icmp .ge 12, 3) := by decide +kernel
theorem d_letterOf_13 : decode b_letterOf 13 = .ok (.ldc 67, 2) := by decide +kernel
theorem d_letterOf_15 : decode b_letterOf 15 = .ok (.iload_n 0, 1) := by decide +kernel
theorem d_letterOf_16 : decode b_letterOf 16 = .ok (.invokevirtual 75, 3) := by decide +kernel
theorem d_letterOf_19 : decode b_letterOf 19 = .ok (.goto 5, 3) := by decide +kernel
theorem d_letterOf_22 : decode b_letterOf 22 = .ok (.bipush 32, 2) := by decide +kernel
theorem d_letterOf_24 : decode b_letterOf 24 = .ok (.ireturn, 1) := by decide +kernel
set_option maxRecDepth 20000 in
theorem g_letterOf_7 : GoodIn w_letterOf (wsV "Leastcode$Machine" 69 "java/lang/String" ⟨"java/lang/String", "length", "()I"⟩ w_ST_length) := goodIn_r _ [1, 2, 3, 4, 5, 6, 7, 8, 9, 4, 10, 11, 12] rfl (by decide +kernel)
set_option maxRecDepth 20000 in
theorem g_letterOf_16 : GoodIn w_letterOf (wsV "Leastcode$Machine" 75 "java/lang/String" ⟨"java/lang/String", "charAt", "(I)C"⟩ w_ST_charAt) := goodIn_r _ [13, 14, 15, 4, 16, 17, 18, 19, 4, 20, 11, 12, 6, 21, 22, 23, 24, 25, 26, 27, 28, 29, 30, 31, 32] rfl (by decide +kernel)
set_option maxHeartbeats 4000000 in
set_option maxRecDepth 100000 in
theorem c_letterOf (l : Launch) (sa : Nat) (va : Nat) (x : Int32) : Met l y_letterOf w_letterOf rm_letterOf (va_Pc [.int x] (fun U => va_O "java/lang/String" sa (fun _ => False) U U.heap ∧ va_OF "java/lang/String" "value" "[B" (.ref va) sa (fun _ => False) U U.heap ∧ va_OF "java/lang/String" "coder" "B" (.int 0) sa (fun _ => False) U U.heap ∧ va_T .byte va 16 kb (fun _ => False) U U.heap ∧ va_Z "java/lang/String" "COMPACT_STRINGS" "Z" (.int 1) (fun _ => False) U U.heap ∧ va_Zq "jdk/internal/util/Preconditions" "SIOOBE_FORMATTER" "Ljava/util/function/BiFunction;" (fun _ => False) U U.heap ∧ vk_R "Leastcode$Machine" 67 "masnoxkcidlrtzbf" sa U)) (vp_Si (fun r => narrow .char (.int r) = .int r)) 0 0 (fun _ => False) := by
  refine Met.ofW (cc := b_letterOf) (maxL := 1) (ret := (some .char)) (by decide) rfl ?_
  intro p e s m args below meth c s₁ B hml hv
  obtain ⟨rfl, hE0, hE1, hE2, hE3, hE4, hE5, hE6⟩ := hv
  have hx := B.exec
  have hb := B.bytes
  have hr := B.returns
  have hts := atoms_spec (ws := w_letterOf) B.pre
  have hown : s.vm.findClass "Leastcode$Machine" = some m.cls := findClass_of_methodNamed B.named
  have hlocks := B.notSynchronized
  have hl := lv_entry ([.int x]) (n := 1) (Nat.le_of_ble_eq_true rfl)
  rw [lg_entry_eq]
  generalize (lg_sl ([.int x]) ++ List.replicate (1 - (lg_sl ([.int x])).length) Slot.unset).toArray = ls at hl ⊢
  have hl : lv_has ls 1 [(0, .int x)] := hl
  refine lv_iload_n hx hb d_letterOf_0 rfl (lv_at hl 0 rfl) ?_
  refine lv_if_lt (tgt := 22) hx hb d_letterOf_1 (by decide) (fun c_1 => ?_) (fun c_1 => ?_)
  · skip
    refine lv_bipush (v := 32) hx hb d_letterOf_22 (by decide) ?_
    exact W.zret hx hb hr rfl (fun t ht hW => ⟨_, rfl, rfl, ht⟩) (fun _ h => by cases h) d_letterOf_24
  · skip
    refine lv_iload_n hx hb d_letterOf_4 rfl (lv_at hl 0 rfl) ?_
    refine va_ldcS hx hb hown hE6 d_letterOf_5 ?_
    refine vp_callSi (W.runV (As := []) (rest := [.int x]) ⟨hx, hb, hml, hown, hts⟩ (c_ST_length l sa va) (cwV 0 hts g_letterOf_7 rfl rfl rfl (by decide +kernel) ⟨Nat.le_of_ble_eq_true rfl, Nat.le_of_ble_eq_true rfl⟩) ⟨fun a U g mk z => by obtain ⟨z0, zE0, zE1, zE2, zE3, zE4⟩ := z; exact ⟨z0, zE0.moved (u := U) (U := U.calling g mk a) (Vm.Alike.refl U.vm), zE1.moved (u := U) (U := U.calling g mk a) (Vm.Alike.refl U.vm), zE2.moved (u := U) (U := U.calling g mk a) (Vm.Alike.refl U.vm), zE3.moved (u := U) (U := U.calling g mk a) (Vm.Alike.refl U.vm), zE4.moved (u := U) (U := U.calling g mk a) (Vm.Alike.refl U.vm)⟩, va_Orecv hE0 (va_S.rf (A := fun _ => False)), fun U hU hW => ⟨rfl, by have q9 := hE0.moved hW.alike; rw [← hU] at q9; exact q9, by have q9 := hE1.moved hW.alike; rw [← hU] at q9; exact q9, by have q9 := hE2.moved hW.alike; rw [← hU] at q9; exact q9, by have q9 := hE3.moved hW.alike; rw [← hU] at q9; exact q9, by have q9 := hE4.moved hW.alike; rw [← hU] at q9; exact q9⟩⟩ rfl rfl hl.1 rfl (lv_room (Nat.le_of_ble_eq_true rfl)) d_letterOf_7 ⟨(Nat.le_of_ble_eq_true rfl), (Nat.le_of_ble_eq_true rfl)⟩) (fun r1 hr1 => ?_)
    replace hr1 := hr1.symm; subst hr1
    refine lv_icmp_ge (tgt := 22) hx hb d_letterOf_10 (by decide) (fun c_10 => ?_) (fun c_10 => ?_)
    · skip
      refine lv_bipush (v := 32) hx hb d_letterOf_22 (by decide) ?_
      exact W.zret hx hb hr rfl (fun t ht hW => ⟨_, rfl, rfl, ht⟩) (fun _ h => by cases h) d_letterOf_24
    · skip
      obtain ⟨k9, hk9, hxk9⟩ := nI_within (n := 16) (by omega) c_1 c_10
      refine va_ldcS hx hb hown hE6 d_letterOf_13 ?_
      refine lv_iload_n hx hb d_letterOf_15 rfl (lv_at hl 0 rfl) ?_
      refine vp_callSi (W.runV (As := [.int x]) (rest := []) ⟨hx, hb, hml, hown, hts⟩ (c_ST_charAt l sa va x k9 hk9 hxk9) (cwV 1 hts g_letterOf_16 rfl rfl rfl (by decide +kernel) ⟨Nat.le_of_ble_eq_true rfl, Nat.le_of_ble_eq_true rfl⟩) ⟨fun a U g mk z => by obtain ⟨z0, zE0, zE1, zE2, zE3, zE4, zE5⟩ := z; exact ⟨z0, zE0.moved (u := U) (U := U.calling g mk a) (Vm.Alike.refl U.vm), zE1.moved (u := U) (U := U.calling g mk a) (Vm.Alike.refl U.vm), zE2.moved (u := U) (U := U.calling g mk a) (Vm.Alike.refl U.vm), zE3.moved (u := U) (U := U.calling g mk a) (Vm.Alike.refl U.vm), zE4.moved (u := U) (U := U.calling g mk a) (Vm.Alike.refl U.vm), zE5.moved (u := U) (U := U.calling g mk a) (Vm.Alike.refl U.vm)⟩, va_Orecv hE0 (va_S.rf (A := fun _ => False)), fun U hU hW => ⟨rfl, by have q9 := hE0.moved hW.alike; rw [← hU] at q9; exact q9, by have q9 := hE1.moved hW.alike; rw [← hU] at q9; exact q9, by have q9 := hE2.moved hW.alike; rw [← hU] at q9; exact q9, by have q9 := hE3.moved hW.alike; rw [← hU] at q9; exact q9, by have q9 := hE4.moved hW.alike; rw [← hU] at q9; exact q9, by have q9 := hE5.moved hW.alike; rw [← hU] at q9; exact q9⟩⟩ rfl rfl hl.1 rfl (lv_room (Nat.le_of_ble_eq_true rfl)) d_letterOf_16 ⟨(Nat.le_of_ble_eq_true rfl), (Nat.le_of_ble_eq_true rfl)⟩) (fun r2 hr2 => ?_)
      replace hr2 := hr2.symm; subst hr2
      refine lv_goto (tgt := 24) hx hb d_letterOf_19 (by decide) ?_
      exact W.zret hx hb hr (kb_nar k9 hk9) (fun t ht hW => ⟨_, rfl, (kb_nar k9 hk9), ht⟩) (fun _ h => by cases h) d_letterOf_24
end
section
abbrev rm_Machine_init : Room := { frames := 5, cells := 7, slots := 8461, locals := 105 }
abbrev b_Machine_init : ByteArray := prog_6_method_1_code
def y_Machine_init : MethodName := ⟨"Leastcode$Machine", "<init>", "()V"⟩
def w_Machine_init : List Cond := [.code ⟨"Leastcode$Machine", "<init>", "()V"⟩ prog_6_method_1_code 8 none, .methodLink "Leastcode$Machine" 3 ⟨"java/lang/Object", "<init>", "()V"⟩, .instanceMethod ⟨"java/lang/Object", "<init>", "()V"⟩, .code ⟨"java/lang/Object", "<init>", "()V"⟩ object_method_1_code 1 none, .arrayClass .int, .laysFinal "Leastcode$Machine" "Leastcode$Machine" "next" "[I", .laysFinal "Leastcode$Machine" "Leastcode$Machine" "readParts" "[I", .laysFinal "Leastcode$Machine" "Leastcode$Machine" "writtenParts" "[I", .laysFinal "Leastcode$Machine" "Leastcode$Machine" "mirrors" "[I", .laysFinal "Leastcode$Machine" "Leastcode$Machine" "toRegister0" "[J", .laysFinal "Leastcode$Machine" "Leastcode$Machine" "toRegister1" "[J", .laysFinal "Leastcode$Machine" "Leastcode$Machine" "toFlag" "[J", .fieldLink "Leastcode$Machine" 9 "Leastcode$Machine" "next" "[I", .fieldLink "Leastcode$Machine" 15 "Leastcode$Machine" "readParts" "[I", .fieldLink "Leastcode$Machine" 18 "Leastcode$Machine" "writtenParts" "[I", .fieldLink "Leastcode$Machine" 21 "Leastcode$Machine" "mirrors" "[I", .arrayClass .long, .fieldLink "Leastcode$Machine" 24 "Leastcode$Machine" "toRegister0" "[J", .fieldLink "Leastcode$Machine" 28 "Leastcode$Machine" "toRegister1" "[J", .fieldLink "Leastcode$Machine" 31 "Leastcode$Machine" "toFlag" "[J", .methodLink "Leastcode$Machine" 34 ⟨"Leastcode$Machine", "kindOf", "(I)I"⟩, .static ⟨"Leastcode$Machine", "kindOf", "(I)I"⟩, .initialized "Leastcode$Machine", .code ⟨"Leastcode$Machine", "kindOf", "(I)I"⟩ prog_6_method_4_code 1 (some .int), .methodLink "Leastcode$Machine" 38 ⟨"Leastcode$Machine", "letterOf", "(I)C"⟩, .static ⟨"Leastcode$Machine", "letterOf", "(I)C"⟩, .code ⟨"Leastcode$Machine", "letterOf", "(I)C"⟩ prog_6_method_3_code 1 (some .char), .methodLink "Leastcode$Machine" 69 ⟨"java/lang/String", "length", "()I"⟩, .instanceMethod ⟨"java/lang/String", "length", "()I"⟩, .selects "java/lang/String" ⟨"java/lang/String", "length", "()I"⟩ ⟨"java/lang/String", "length", "()I"⟩, .initialized "java/lang/String", .code ⟨"java/lang/String", "length", "()I"⟩ prog_34_method_54_code 1 (some .int), .fieldLink "java/lang/String" 9 "java/lang/String" "value" "[B", .methodLink "java/lang/String" 335 ⟨"java/lang/String", "coder", "()B"⟩, .instanceMethod ⟨"java/lang/String", "coder", "()B"⟩, .selects "java/lang/String" ⟨"java/lang/String", "coder", "()B"⟩ ⟨"java/lang/String", "coder", "()B"⟩, .code ⟨"java/lang/String", "coder", "()B"⟩ prog_34_method_152_code 1 (some .byte), .fieldLink "java/lang/String" 38 "java/lang/String" "COMPACT_STRINGS" "Z", .fieldLink "java/lang/String" 15 "java/lang/String" "coder" "B", .methodLink "Leastcode$Machine" 75 ⟨"java/lang/String", "charAt", "(I)C"⟩, .instanceMethod ⟨"java/lang/String", "charAt", "(I)C"⟩, .selects "java/lang/String" ⟨"java/lang/String", "charAt", "(I)C"⟩ ⟨"java/lang/String", "charAt", "(I)C"⟩, .code ⟨"java/lang/String", "charAt", "(I)C"⟩ prog_34_method_56_code 2 (some .char), .methodLink "java/lang/String" 492 ⟨"java/lang/String", "isLatin1", "()Z"⟩, .instanceMethod ⟨"java/lang/String", "isLatin1", "()Z"⟩, .selects "java/lang/String" ⟨"java/lang/String", "isLatin1", "()Z"⟩ ⟨"java/lang/String", "isLatin1", "()Z"⟩, .code ⟨"java/lang/String", "isLatin1", "()Z"⟩ prog_34_method_154_code 1 (some .boolean), .methodLink "java/lang/String" 495 ⟨"java/lang/StringLatin1", "charAt", "([BI)C"⟩, .static ⟨"java/lang/StringLatin1", "charAt", "([BI)C"⟩, .initialized "java/lang/StringLatin1", .code ⟨"java/lang/StringLatin1", "charAt", "([BI)C"⟩ prog_36_method_2_code 2 (some .char), .methodLink "java/lang/StringLatin1" 9 ⟨"java/lang/String", "checkIndex", "(II)V"⟩, .static ⟨"java/lang/String", "checkIndex", "(II)V"⟩, .code ⟨"java/lang/String", "checkIndex", "(II)V"⟩ prog_34_method_155_code 2 none, .fieldLink "java/lang/String" 1053 "jdk/internal/util/Preconditions" "SIOOBE_FORMATTER" "Ljava/util/function/BiFunction;", .methodLink "java/lang/String" 1059 ⟨"jdk/internal/util/Preconditions", "checkIndex", "(IILjava/util/function/BiFunction;)I"⟩, .static ⟨"jdk/internal/util/Preconditions", "checkIndex", "(IILjava/util/function/BiFunction;)I"⟩, .initialized "jdk/internal/util/Preconditions", .code ⟨"jdk/internal/util/Preconditions", "checkIndex", "(IILjava/util/function/BiFunction;)I"⟩ prog_81_method_11_code 3 (some .int), .methodLink "Leastcode$Machine" 42 ⟨"Leastcode$Machine", "firstOf", "(I)I"⟩, .static ⟨"Leastcode$Machine", "firstOf", "(I)I"⟩, .code ⟨"Leastcode$Machine", "firstOf", "(I)I"⟩ prog_6_method_5_code 1 (some .int), .methodLink "Leastcode$Machine" 45 ⟨"Leastcode$Machine", "secondOf", "(I)I"⟩, .static ⟨"Leastcode$Machine", "secondOf", "(I)I"⟩, .code ⟨"Leastcode$Machine", "secondOf", "(I)I"⟩ prog_6_method_6_code 1 (some .int), .methodLink "Leastcode$Machine" 48 ⟨"Leastcode$Machine", "partsRead", "(CIII)I"⟩, .static ⟨"Leastcode$Machine", "partsRead", "(CIII)I"⟩, .code ⟨"Leastcode$Machine", "partsRead", "(CIII)I"⟩ prog_6_method_7_code 4 (some .int), .methodLink "Leastcode$Machine" 52 ⟨"Leastcode$Machine", "partsWritten", "(CI)I"⟩, .static ⟨"Leastcode$Machine", "partsWritten", "(CI)I"⟩, .code ⟨"Leastcode$Machine", "partsWritten", "(CI)I"⟩ prog_6_method_8_code 2 (some .int), .methodLink "Leastcode$Machine" 56 ⟨"Leastcode$Machine", "numberOf", "(III)I"⟩, .static ⟨"Leastcode$Machine", "numberOf", "(III)I"⟩, .code ⟨"Leastcode$Machine", "numberOf", "(III)I"⟩ prog_6_method_2_code 3 (some .int), .methodLink "Leastcode$Machine" 60 ⟨"Leastcode$Machine", "effect", "(CIII)I"⟩, .static ⟨"Leastcode$Machine", "effect", "(CIII)I"⟩, .code ⟨"Leastcode$Machine", "effect", "(CIII)I"⟩ prog_6_method_9_code 7 (some .int), .methodLink "Leastcode$Machine" 63 ⟨"Leastcode$Machine", "register", "(II)I"⟩, .static ⟨"Leastcode$Machine", "register", "(II)I"⟩, .code ⟨"Leastcode$Machine", "register", "(II)I"⟩ prog_6_method_10_code 2 (some .int), .methodLink "Leastcode$Machine" 78 ⟨"Leastcode$Machine", "withRegister", "(III)I"⟩, .static ⟨"Leastcode$Machine", "withRegister", "(III)I"⟩, .code ⟨"Leastcode$Machine", "withRegister", "(III)I"⟩ prog_6_method_11_code 3 (some .int), .methodLink "Leastcode$Machine" 81 ⟨"Leastcode$Machine", "withFlag", "(IZ)I"⟩, .static ⟨"Leastcode$Machine", "withFlag", "(IZ)I"⟩, .code ⟨"Leastcode$Machine", "withFlag", "(IZ)I"⟩ prog_6_method_12_code 2 (some .int)]
theorem d_Machine_init_0 : decode b_Machine_init 0 = .ok (.aload_n 0, 1) := by decide +kernel
theorem d_Machine_init_1 : decode b_Machine_init 1 = .ok (.invokespecial 3, 3) := by decide +kernel
theorem d_Machine_init_4 : decode b_Machine_init 4 = .ok (.aload_n 0, 1) := by decide +kernel
theorem d_Machine_init_5 : decode b_Machine_init 5 = .ok (.sipush 6016, 3) := by decide +kernel
theorem d_Machine_init_8 : decode b_Machine_init 8 = .ok (.newarray .int, 2) := by decide +kernel
theorem d_Machine_init_10 : decode b_Machine_init 10 = .ok (.putfield 9, 3) := by decide +kernel
theorem d_Machine_init_13 : decode b_Machine_init 13 = .ok (.aload_n 0, 1) := by decide +kernel
theorem d_Machine_init_14 : decode b_Machine_init 14 = .ok (.bipush 47, 2) := by decide +kernel
theorem d_Machine_init_16 : decode b_Machine_init 16 = .ok (.newarray .int, 2) := by decide +kernel
theorem d_Machine_init_18 : decode b_Machine_init 18 = .ok (.putfield 15, 3) := by decide +kernel
theorem d_Machine_init_21 : decode b_Machine_init 21 = .ok (.aload_n 0, 1) := by decide +kernel
theorem d_Machine_init_22 : decode b_Machine_init 22 = .ok (.bipush 47, 2) := by decide +kernel
theorem d_Machine_init_24 : decode b_Machine_init 24 = .ok (.newarray .int, 2) := by decide +kernel
theorem d_Machine_init_26 : decode b_Machine_init 26 = .ok (.putfield 18, 3) := by decide +kernel
theorem d_Machine_init_29 : decode b_Machine_init 29 = .ok (.aload_n 0, 1) := by decide +kernel
theorem d_Machine_init_30 : decode b_Machine_init 30 = .ok (.bipush 47, 2) := by decide +kernel
theorem d_Machine_init_32 : decode b_Machine_init 32 = .ok (.newarray .int, 2) := by decide +kernel
theorem d_Machine_init_34 : decode b_Machine_init 34 = .ok (.putfield 21, 3) := by decide +kernel
theorem d_Machine_init_37 : decode b_Machine_init 37 = .ok (.aload_n 0, 1) := by decide +kernel
theorem d_Machine_init_38 : decode b_Machine_init 38 = .ok (.sipush 1024, 3) := by decide +kernel
theorem d_Machine_init_41 : decode b_Machine_init 41 = .ok (.newarray .long, 2) := by decide +kernel
theorem d_Machine_init_43 : decode b_Machine_init 43 = .ok (.putfield 24, 3) := by decide +kernel
theorem d_Machine_init_46 : decode b_Machine_init 46 = .ok (.aload_n 0, 1) := by decide +kernel
theorem d_Machine_init_47 : decode b_Machine_init 47 = .ok (.sipush 1024, 3) := by decide +kernel
theorem d_Machine_init_50 : decode b_Machine_init 50 = .ok (.newarray .long, 2) := by decide +kernel
theorem d_Machine_init_52 : decode b_Machine_init 52 = .ok (.putfield 28, 3) := by decide +kernel
theorem d_Machine_init_55 : decode b_Machine_init 55 = .ok (.aload_n 0, 1) := by decide +kernel
theorem d_Machine_init_56 : decode b_Machine_init 56 = .ok (.sipush 256, 3) := by decide +kernel
theorem d_Machine_init_59 : decode b_Machine_init 59 = .ok (.newarray .long, 2) := by decide +kernel
theorem d_Machine_init_61 : decode b_Machine_init 61 = .ok (.putfield 31, 3) := by decide +kernel
theorem d_Machine_init_64 : decode b_Machine_init 64 = .ok (.iconst 0, 1) := by decide +kernel
theorem d_Machine_init_65 : decode b_Machine_init 65 = .ok (.istore_n 1, 1) := by decide +kernel
theorem d_Machine_init_66 : decode b_Machine_init 66 = .ok (.iload_n 1, 1) := by decide +kernel
theorem d_Machine_init_67 : decode b_Machine_init 67 = .ok (.bipush 47, 2) := by decide +kernel
theorem d_Machine_init_69 : decode b_Machine_init 69 = .ok (.if_icmp .ge 186, 3) := by decide +kernel
theorem d_Machine_init_72 : decode b_Machine_init 72 = .ok (.iload_n 1, 1) := by decide +kernel
theorem d_Machine_init_73 : decode b_Machine_init 73 = .ok (.invokestatic 34, 3) := by decide +kernel
theorem d_Machine_init_76 : decode b_Machine_init 76 = .ok (.istore_n 2, 1) := by decide +kernel
theorem d_Machine_init_77 : decode b_Machine_init 77 = .ok (.iload_n 2, 1) := by decide +kernel
theorem d_Machine_init_78 : decode b_Machine_init 78 = .ok (.invokestatic 38, 3) := by decide +kernel
theorem d_Machine_init_81 : decode b_Machine_init 81 = .ok (.istore_n 3, 1) := by decide +kernel
theorem d_Machine_init_82 : decode b_Machine_init 82 = .ok (.iload_n 1, 1) := by decide +kernel
theorem d_Machine_init_83 : decode b_Machine_init 83 = .ok (.invokestatic 42, 3) := by decide +kernel
theorem d_Machine_init_86 : decode b_Machine_init 86 = .ok (.istore 4, 2) := by decide +kernel
theorem d_Machine_init_88 : decode b_Machine_init 88 = .ok (.iload_n 1, 1) := by decide +kernel
theorem d_Machine_init_89 : decode b_Machine_init 89 = .ok (.invokestatic 45, 3) := by decide +kernel
theorem d_Machine_init_92 : decode b_Machine_init 92 = .ok (.istore 5, 2) := by decide +kernel
theorem d_Machine_init_94 : decode b_Machine_init 94 = .ok (.aload_n 0, 1) := by decide +kernel
theorem d_Machine_init_95 : decode b_Machine_init 95 = .ok (.getfield 15, 3) := by decide +kernel
theorem d_Machine_init_98 : decode b_Machine_init 98 = .ok (.iload_n 1, 1) := by decide +kernel
theorem d_Machine_init_99 : decode b_Machine_init 99 = .ok (.iload_n 3, 1) := by decide +kernel
theorem d_Machine_init_100 : decode b_Machine_init 100 = .ok (.iload_n 2, 1) := by decide +kernel
theorem d_Machine_init_101 : decode b_Machine_init 101 = .ok (.iload 4, 2) := by decide +kernel
theorem d_Machine_init_103 : decode b_Machine_init 103 = .ok (.iload 5, 2) := by decide +kernel
theorem d_Machine_init_105 : decode b_Machine_init 105 = .ok (.invokestatic 48, 3) := by decide +kernel
theorem d_Machine_init_108 : decode b_Machine_init 108 = .ok (.iastore, 1) := by decide +kernel
theorem d_Machine_init_109 : decode b_Machine_init 109 = .ok (.aload_n 0, 1) := by decide +kernel
theorem d_Machine_init_110 : decode b_Machine_init 110 = .ok (.getfield 18, 3) := by decide +kernel
theorem d_Machine_init_113 : decode b_Machine_init 113 = .ok (.iload_n 1, 1) := by decide +kernel
theorem d_Machine_init_114 : decode b_Machine_init 114 = .ok (.iload_n 3, 1) := by decide +kernel
theorem d_Machine_init_115 : decode b_Machine_init 115 = .ok (.iload 4, 2) := by decide +kernel
theorem d_Machine_init_117 : decode b_Machine_init 117 = .ok (.invokestatic 52, 3) := by decide +kernel
theorem d_Machine_init_120 : decode b_Machine_init 120 = .ok (.iastore, 1) := by decide +kernel
theorem d_Machine_init_121 : decode b_Machine_init 121 = .ok (.aload_n 0, 1) := by decide +kernel
theorem d_Machine_init_122 : decode b_Machine_init 122 = .ok (.getfield 21, 3) := by decide +kernel
theorem d_Machine_init_125 : decode b_Machine_init 125 = .ok (.iload_n 1, 1) := by decide +kernel
theorem d_Machine_init_126 : decode b_Machine_init 126 = .ok (.iload_n 2, 1) := by decide +kernel
theorem d_Machine_init_127 : decode b_Machine_init 127 = .ok (.iconst 1, 1) := by decide +kernel
theorem d_Machine_init_128 : decode b_Machine_init 128 = .ok (.iload 4, 2) := by decide +kernel
theorem d_Machine_init_130 : decode b_Machine_init 130 = .ok (.isub, 1) := by decide +kernel
theorem d_Machine_init_131 : decode b_Machine_init 131 = .ok (.iconst 1, 1) := by decide +kernel
theorem d_Machine_init_132 : decode b_Machine_init 132 = .ok (.iload 5, 2) := by decide +kernel
theorem d_Machine_init_134 : decode b_Machine_init 134 = .ok (.isub, 1) := by decide +kernel
theorem d_Machine_init_135 : decode b_Machine_init 135 = .ok (.invokestatic 56, 3) := by decide +kernel
theorem d_Machine_init_138 : decode b_Machine_init 138 = .ok (.iastore, 1) := by decide +kernel
theorem d_Machine_init_139 : decode b_Machine_init 139 = .ok (.iconst 0, 1) := by decide +kernel
theorem d_Machine_init_140 : decode b_Machine_init 140 = .ok (.istore 6, 2) := by decide +kernel
theorem d_Machine_init_142 : decode b_Machine_init 142 = .ok (.iload 6, 2) := by decide +kernel
theorem d_Machine_init_144 : decode b_Machine_init 144 = .ok (.sipush 128, 3) := by decide +kernel
theorem d_Machine_init_147 : decode b_Machine_init 147 = .ok (.if_icmp .ge 102, 3) := by decide +kernel
theorem d_Machine_init_150 : decode b_Machine_init 150 = .ok (.iload_n 3, 1) := by decide +kernel
theorem d_Machine_init_151 : decode b_Machine_init 151 = .ok (.iload 4, 2) := by decide +kernel
theorem d_Machine_init_153 : decode b_Machine_init 153 = .ok (.iload 5, 2) := by decide +kernel
theorem d_Machine_init_155 : decode b_Machine_init 155 = .ok (.iload 6, 2) := by decide +kernel
theorem d_Machine_init_157 : decode b_Machine_init 157 = .ok (.invokestatic 60, 3) := by decide +kernel
theorem d_Machine_init_160 : decode b_Machine_init 160 = .ok (.istore 7, 2) := by decide +kernel
theorem d_Machine_init_162 : decode b_Machine_init 162 = .ok (.aload_n 0, 1) := by decide +kernel
theorem d_Machine_init_163 : decode b_Machine_init 163 = .ok (.getfield 9, 3) := by decide +kernel
theorem d_Machine_init_166 : decode b_Machine_init 166 = .ok (.iload_n 1, 1) := by decide +kernel
theorem d_Machine_init_167 : decode b_Machine_init 167 = .ok (.sipush 128, 3) := by decide +kernel
theorem d_Machine_init_170 : decode b_Machine_init 170 = .ok (.imul, 1) := by decide +kernel
theorem d_Machine_init_171 : decode b_Machine_init 171 = .ok (.iload 6, 2) := by decide +kernel
theorem d_Machine_init_173 : decode b_Machine_init 173 = .ok (.iadd, 1) := by decide +kernel
theorem d_Machine_init_174 : decode b_Machine_init 174 = .ok (.iload 7, 2) := by decide +kernel
theorem d_Machine_init_176 : decode b_Machine_init 176 = .ok (.iastore, 1) := by decide +kernel
theorem d_Machine_init_177 : decode b_Machine_init 177 = .ok (.aload_n 0, 1) := by decide +kernel
theorem d_Machine_init_178 : decode b_Machine_init 178 = .ok (.getfield 24, 3) := by decide +kernel
theorem d_Machine_init_181 : decode b_Machine_init 181 = .ok (.iload 6, 2) := by decide +kernel
theorem d_Machine_init_183 : decode b_Machine_init 183 = .ok (.bipush 8, 2) := by decide +kernel
theorem d_Machine_init_185 : decode b_Machine_init 185 = .ok (.imul, 1) := by decide +kernel
theorem d_Machine_init_186 : decode b_Machine_init 186 = .ok (.iload 7, 2) := by decide +kernel
theorem d_Machine_init_188 : decode b_Machine_init 188 = .ok (.iconst 0, 1) := by decide +kernel
theorem d_Machine_init_189 : decode b_Machine_init 189 = .ok (.invokestatic 63, 3) := by decide +kernel
theorem d_Machine_init_192 : decode b_Machine_init 192 = .ok (.iadd, 1) := by decide +kernel
theorem d_Machine_init_193 : decode b_Machine_init 193 = .ok (.dup2, 1) := by decide +kernel
theorem d_Machine_init_194 : decode b_Machine_init 194 = .ok (.laload, 1) := by decide +kernel
theorem d_Machine_init_195 : decode b_Machine_init 195 = .ok (.lconst 1, 1) := by decide +kernel
theorem d_Machine_init_196 : decode b_Machine_init 196 = .ok (.iload_n 1, 1) := by decide +kernel
theorem d_Machine_init_197 : decode b_Machine_init 197 = .ok (.lshl, 1) := by decide +kernel
theorem d_Machine_init_198 : decode b_Machine_init 198 = .ok (.lor, 1) := by decide +kernel
theorem d_Machine_init_199 : decode b_Machine_init 199 = .ok (.lastore, 1) := by decide +kernel
theorem d_Machine_init_200 : decode b_Machine_init 200 = .ok (.aload_n 0, 1) := by decide +kernel
theorem d_Machine_init_201 : decode b_Machine_init 201 = .ok (.getfield 28, 3) := by decide +kernel
theorem d_Machine_init_204 : decode b_Machine_init 204 = .ok (.iload 6, 2) := by decide +kernel
theorem d_Machine_init_206 : decode b_Machine_init 206 = .ok (.bipush 8, 2) := by decide +kernel
theorem d_Machine_init_208 : decode b_Machine_init 208 = .ok (.imul, 1) := by decide +kernel
theorem d_Machine_init_209 : decode b_Machine_init 209 = .ok (.iload 7, 2) := by decide +kernel
theorem d_Machine_init_211 : decode b_Machine_init 211 = .ok (.iconst 1, 1) := by decide +kernel
theorem d_Machine_init_212 : decode b_Machine_init 212 = .ok (.invokestatic 63, 3) := by decide +kernel
theorem d_Machine_init_215 : decode b_Machine_init 215 = .ok (.iadd, 1) := by decide +kernel
theorem d_Machine_init_216 : decode b_Machine_init 216 = .ok (.dup2, 1) := by decide +kernel
theorem d_Machine_init_217 : decode b_Machine_init 217 = .ok (.laload, 1) := by decide +kernel
theorem d_Machine_init_218 : decode b_Machine_init 218 = .ok (.lconst 1, 1) := by decide +kernel
theorem d_Machine_init_219 : decode b_Machine_init 219 = .ok (.iload_n 1, 1) := by decide +kernel
theorem d_Machine_init_220 : decode b_Machine_init 220 = .ok (.lshl, 1) := by decide +kernel
theorem d_Machine_init_221 : decode b_Machine_init 221 = .ok (.lor, 1) := by decide +kernel
theorem d_Machine_init_222 : decode b_Machine_init 222 = .ok (.lastore, 1) := by decide +kernel
theorem d_Machine_init_223 : decode b_Machine_init 223 = .ok (.aload_n 0, 1) := by decide +kernel
theorem d_Machine_init_224 : decode b_Machine_init 224 = .ok (.getfield 31, 3) := by decide +kernel
theorem d_Machine_init_227 : decode b_Machine_init 227 = .ok (.iload 6, 2) := by decide +kernel
theorem d_Machine_init_229 : decode b_Machine_init 229 = .ok (.iconst 2, 1) := by decide +kernel
theorem d_Machine_init_230 : decode b_Machine_init 230 = .ok (.imul, 1) := by decide +kernel
theorem d_Machine_init_231 : decode b_Machine_init 231 = .ok (.iload 7, 2) := by decide +kernel
theorem d_Machine_init_233 : decode b_Machine_init 233 = .ok (.iconst 1, 1) := by decide +kernel
theorem d_Machine_init_234 : decode b_Machine_init 234 = .ok (.iand, 1) := by decide +kernel
theorem d_Machine_init_235 : decode b_Machine_init 235 = .ok (.iadd, 1) := by decide +kernel
theorem d_Machine_init_236 : decode b_Machine_init 236 = .ok (.dup2, 1) := by decide +kernel
theorem d_Machine_init_237 : decode b_Machine_init 237 = .ok (.laload, 1) := by decide +kernel
theorem d_Machine_init_238 : decode b_Machine_init 238 = .ok (.lconst 1, 1) := by decide +kernel
theorem d_Machine_init_239 : decode b_Machine_init 239 = .ok (.iload_n 1, 1) := by decide +kernel
theorem d_Machine_init_240 : decode b_Machine_init 240 = .ok (.lshl, 1) := by decide +kernel
theorem d_Machine_init_241 : decode b_Machine_init 241 = .ok (.lor, 1) := by decide +kernel
theorem d_Machine_init_242 : decode b_Machine_init 242 = .ok (.lastore, 1) := by decide +kernel
theorem d_Machine_init_243 : decode b_Machine_init 243 = .ok (.iinc 6 1, 3) := by decide +kernel
theorem d_Machine_init_246 : decode b_Machine_init 246 = .ok (.goto (-104), 3) := by decide +kernel
theorem d_Machine_init_249 : decode b_Machine_init 249 = .ok (.iinc 1 1, 3) := by decide +kernel
theorem d_Machine_init_252 : decode b_Machine_init 252 = .ok (.goto (-186), 3) := by decide +kernel
theorem d_Machine_init_255 : decode b_Machine_init 255 = .ok (.return_, 1) := by decide +kernel
theorem in_Machine_init_MA : ∀ v ∈ u_ws R_MA T_MA 7, v ∈ w_Machine_init := by decide +kernel
set_option maxRecDepth 20000 in
theorem g_Machine_init_73 : GoodIn w_Machine_init (wsS "Leastcode$Machine" 34 ⟨"Leastcode$Machine", "kindOf", "(I)I"⟩ w_kindOf) := goodIn_r _ [20, 21, 22, 23] rfl (by decide +kernel)
set_option maxRecDepth 20000 in
theorem g_Machine_init_78 : GoodIn w_Machine_init (wsS "Leastcode$Machine" 38 ⟨"Leastcode$Machine", "letterOf", "(I)C"⟩ w_letterOf) := goodIn_r _ [24, 25, 22, 26, 27, 28, 29, 30, 31, 32, 33, 34, 35, 36, 37, 38, 39, 40, 41, 42, 43, 44, 45, 46, 47, 48, 49, 50, 51, 52, 53, 54, 55, 56, 57, 58] rfl (by decide +kernel)
set_option maxRecDepth 20000 in
theorem g_Machine_init_83 : GoodIn w_Machine_init (wsS "Leastcode$Machine" 42 ⟨"Leastcode$Machine", "firstOf", "(I)I"⟩ w_firstOf) := goodIn_r _ [59, 60, 22, 61] rfl (by decide +kernel)
set_option maxRecDepth 20000 in
theorem g_Machine_init_89 : GoodIn w_Machine_init (wsS "Leastcode$Machine" 45 ⟨"Leastcode$Machine", "secondOf", "(I)I"⟩ w_secondOf) := goodIn_r _ [62, 63, 22, 64] rfl (by decide +kernel)
set_option maxRecDepth 20000 in
theorem g_Machine_init_105 : GoodIn w_Machine_init (wsS "Leastcode$Machine" 48 ⟨"Leastcode$Machine", "partsRead", "(CIII)I"⟩ w_partsRead) := goodIn_r _ [65, 66, 22, 67] rfl (by decide +kernel)
set_option maxRecDepth 20000 in
theorem g_Machine_init_117 : GoodIn w_Machine_init (wsS "Leastcode$Machine" 52 ⟨"Leastcode$Machine", "partsWritten", "(CI)I"⟩ w_partsWritten) := goodIn_r _ [68, 69, 22, 70] rfl (by decide +kernel)
set_option maxRecDepth 20000 in
theorem g_Machine_init_135 : GoodIn w_Machine_init (wsS "Leastcode$Machine" 56 ⟨"Leastcode$Machine", "numberOf", "(III)I"⟩ w_numberOf) := goodIn_r _ [71, 72, 22, 73] rfl (by decide +kernel)
set_option maxRecDepth 20000 in
theorem g_Machine_init_157 : GoodIn w_Machine_init (wsS "Leastcode$Machine" 60 ⟨"Leastcode$Machine", "effect", "(CIII)I"⟩ w_effect) := goodIn_r _ [74, 75, 22, 76, 77, 78, 22, 79, 80, 81, 82, 83, 84, 85] rfl (by decide +kernel)
set_option maxRecDepth 20000 in
theorem g_Machine_init_189 : GoodIn w_Machine_init (wsS "Leastcode$Machine" 63 ⟨"Leastcode$Machine", "register", "(II)I"⟩ w_register) := goodIn_r _ [77, 78, 22, 79] rfl (by decide +kernel)
set_option maxRecDepth 20000 in
theorem g_Machine_init_212 : GoodIn w_Machine_init (wsS "Leastcode$Machine" 63 ⟨"Leastcode$Machine", "register", "(II)I"⟩ w_register) := goodIn_r _ [77, 78, 22, 79] rfl (by decide +kernel)
set_option maxHeartbeats 4000000 in
set_option maxRecDepth 100000 in
theorem c_Machine_init (l : Launch) (dC : Nat → ClassId) (dI : Nat → Nat → Nat) (sa : Nat) (va : Nat) (h0 : Nat) (sz : Nat) : Met l y_Machine_init w_Machine_init rm_Machine_init (va_Pc [.ref h0] (fun U => U.heap.size = sz ∧ va_P (dC, dI) classes [(h0, .inr (1, [.null, .null, .null, .null, .null, .null, .null]))] U.heap ∧ va_K (dC, dI) classes [] U ∧ va_D (fun _ => True) [(h0, .inr (1, [.null, .null, .null, .null, .null, .null, .null]))] ∧ va_O "java/lang/String" sa (va_A [(h0, .inr (1, [.null, .null, .null, .null, .null, .null, .null]))] sz) U U.heap ∧ va_OF "java/lang/String" "value" "[B" (.ref va) sa (va_A [(h0, .inr (1, [.null, .null, .null, .null, .null, .null, .null]))] sz) U U.heap ∧ va_OF "java/lang/String" "coder" "B" (.int 0) sa (va_A [(h0, .inr (1, [.null, .null, .null, .null, .null, .null, .null]))] sz) U U.heap ∧ va_T .byte va 16 kb (va_A [(h0, .inr (1, [.null, .null, .null, .null, .null, .null, .null]))] sz) U U.heap ∧ va_Z "java/lang/String" "COMPACT_STRINGS" "Z" (.int 1) (va_A [(h0, .inr (1, [.null, .null, .null, .null, .null, .null, .null]))] sz) U U.heap ∧ va_Zq "jdk/internal/util/Preconditions" "SIOOBE_FORMATTER" "Ljava/util/function/BiFunction;" (va_A [(h0, .inr (1, [.null, .null, .null, .null, .null, .null, .null]))] sz) U U.heap ∧ vk_R "Leastcode$Machine" 67 "masnoxkcidlrtzbf" sa U)) (va_Qv (fun (_ : Unit) => True) (fun _ t => ∃ qn : Nat, ∃ qa : Nat, ∃ qb : Nat, ∃ qc : Nat, ∃ qd : Nat, ∃ qe : Nat, ∃ qf : Nat, ∃ cA : ClassId, ∃ f : Nat → Int32, va_P (dC, dI) classes [(h0, .inr (1, [.ref qn, .ref qa, .ref qb, .ref qc, .ref qd, .ref qe, .ref qf])), (qn, .inl (cA, 6016, .inl (f)))] t.heap ∧ va_K (dC, dI) classes [(cA, .int)] t ∧ va_D (va_A [(h0, .inr (1, [.null, .null, .null, .null, .null, .null, .null]))] sz) [(h0, .inr (1, [.ref qn, .ref qa, .ref qb, .ref qc, .ref qd, .ref qe, .ref qf])), (qn, .inl (cA, 6016, .inl (f)))]) (va_A [(h0, .inr (1, [.null, .null, .null, .null, .null, .null, .null]))] sz)) 7 8461 (va_A [(h0, .inr (1, [.null, .null, .null, .null, .null, .null, .null]))] sz) := by
  refine Met.ofW (cc := b_Machine_init) (maxL := 8) (ret := none) (by decide) rfl ?_
  intro p e s m args below meth c s₁ B hml hv
  obtain ⟨rfl, hsz, hP, hK, hD0, hE0, hE1, hE2, hE3, hE4, hE5, hE6⟩ := hv
  have hx := B.exec
  have hb := B.bytes
  have hr := B.returns
  have hts := atoms_spec (ws := w_Machine_init) B.pre
  have hown : s.vm.findClass "Leastcode$Machine" = some m.cls := findClass_of_methodNamed B.named
  have hlocks := B.notSynchronized
  have hin : meth.name = "<init>" := (name_of_methodNamed B.named B.method).1
  subst hsz
  have hD := hD0.self (sz := s.heap.size)
  generalize hAe : va_A [(h0, .inr (1, [.null, .null, .null, .null, .null, .null, .null]))] s.heap.size = A at hD hE0 hE1 hE2 hE3 hE4 hE5 hE6 ⊢
  have hA : ∀ q : Nat, s.heap.size ≤ q → A q := fun q h => by rw [← hAe]; exact Or.inr h
  have hS : va_S A s.heap s.heap [] := va_S.rf
  have hP : va_P (dC, dI) classes [(h0, .inr (1, [.null, .null, .null, .null, .null, .null, .null]))] s.heap := hP
  have hl := lv_entry ([.ref h0]) (n := 8) (Nat.le_of_ble_eq_true rfl)
  rw [lg_entry_eq]
  generalize (lg_sl ([.ref h0]) ++ List.replicate (8 - (lg_sl ([.ref h0])).length) Slot.unset).toArray = ls at hl ⊢
  have hl : lv_has ls 8 [(0, .ref h0)] := hl
  refine lv_aload_n hx hb d_Machine_init_0 rfl (lv_at hl 0 rfl) ?_
  refine W.objInit hx hb hown (hts (.methodLink "Leastcode$Machine" 3 ⟨"java/lang/Object", "<init>", "()V"⟩) (List.mem_of_getElem? (i := 1) rfl)) (hts (.instanceMethod ⟨"java/lang/Object", "<init>", "()V"⟩) (List.mem_of_getElem? (i := 2) rfl)) (hts (.code ⟨"java/lang/Object", "<init>", "()V"⟩ object_method_1_code 1 none) (List.mem_of_getElem? (i := 3) rfl)) rfl (by rw [hml]; exact hl.1) rfl d_Machine_init_1 (Nat.le_of_ble_eq_true rfl) (Nat.le_of_ble_eq_true rfl) ?_
  refine W.eq (g2 := F0 m 4 ls []) rfl ?_
  refine lv_aload_n hx hb d_Machine_init_4 rfl (lv_at hl 0 rfl) ?_
  refine lv_sipush (v := 6016) hx hb d_Machine_init_5 (by decide) ?_
  refine va_newa (D := (dC, dI)) (atype := .int) (a0 := (6016, .inl (fun _ => 0))) (ty := .int) (N' := 6016) hx hb (hts (.arrayClass .int) (List.mem_of_getElem? (i := 4) rfl)) rfl hK hP hD hS hA (fun cA => rfl) (by decide) (by decide) (Nat.le_of_ble_eq_true rfl) (Nat.le_of_ble_eq_true rfl) (Nat.le_of_ble_eq_true rfl) d_Machine_init_8 (fun q1 cA2 H hK hP hD hS => ?_)
  have hP : va_P (dC, dI) classes [(h0, .inr (1, [.null, .null, .null, .null, .null, .null, .null])), (q1, .inl (cA2, 6016, .inl (fun _ => 0)))] H := hP
  have hK : va_K (dC, dI) classes [(cA2, .int)] s := hK
  have hD : va_D A [(h0, .inr (1, [.null, .null, .null, .null, .null, .null, .null])), (q1, .inl (cA2, 6016, .inl (fun _ => 0)))] := hD
  refine W.widen (k := 1) (n := 6016) (by omega) (by omega) ?_
  refine va_putF (D := (dC, dI)) (ci := 1) (v := .ref q1) (ty := .array .int) (C := R_MA) (T := T_MA) (N := 7) hx hb hts in_Machine_init_MA t_MA t_MA_ok n_MA hown hK hP hD hS 0 rfl rfl 0 (by decide) (hts (.fieldLink "Leastcode$Machine" 9 "Leastcode$Machine" "next" "[I") (List.mem_of_getElem? (i := 12) rfl)) (fun _ h9 => h9) rfl hin rfl (by decide +kernel) rfl rfl (Nat.le_of_ble_eq_true rfl) d_Machine_init_10 (fun H locs hP hD hS => ?_)
  have hP : va_P (dC, dI) classes [(h0, .inr (1, [.ref q1, .null, .null, .null, .null, .null, .null])), (q1, .inl (cA2, 6016, .inl (fun _ => 0)))] H := hP
  have hD : va_D A [(h0, .inr (1, [.ref q1, .null, .null, .null, .null, .null, .null])), (q1, .inl (cA2, 6016, .inl (fun _ => 0)))] := hD
  refine lv_aload_n hx hb d_Machine_init_13 rfl (lv_at hl 0 rfl) ?_
  refine lv_bipush (v := 47) hx hb d_Machine_init_14 (by decide) ?_
  refine va_newa (D := (dC, dI)) (atype := .int) (a0 := (47, .inl (fun _ => 0))) (ty := .int) (N' := 47) hx hb (hts (.arrayClass .int) (List.mem_of_getElem? (i := 4) rfl)) rfl hK hP hD hS hA (fun cA => rfl) (by decide) (by decide) (Nat.le_of_ble_eq_true rfl) (Nat.le_of_ble_eq_true rfl) (Nat.le_of_ble_eq_true rfl) d_Machine_init_16 (fun q3 cA4 H hK hP hD hS => ?_)
  have hP : va_P (dC, dI) classes [(h0, .inr (1, [.ref q1, .null, .null, .null, .null, .null, .null])), (q1, .inl (cA2, 6016, .inl (fun _ => 0))), (q3, .inl (cA4, 47, .inl (fun _ => 0)))] H := hP
  have hK : va_K (dC, dI) classes [(cA2, .int), (cA4, .int)] s := hK
  have hD : va_D A [(h0, .inr (1, [.ref q1, .null, .null, .null, .null, .null, .null])), (q1, .inl (cA2, 6016, .inl (fun _ => 0))), (q3, .inl (cA4, 47, .inl (fun _ => 0)))] := hD
  refine W.widen (k := 2) (n := 6063) (by omega) (by omega) ?_
  refine va_putF (D := (dC, dI)) (ci := 1) (v := .ref q3) (ty := .array .int) (C := R_MA) (T := T_MA) (N := 7) hx hb hts in_Machine_init_MA t_MA t_MA_ok n_MA hown hK hP hD hS 0 rfl rfl 1 (by decide) (hts (.fieldLink "Leastcode$Machine" 15 "Leastcode$Machine" "readParts" "[I") (List.mem_of_getElem? (i := 13) rfl)) (fun _ h9 => h9) rfl hin rfl (by decide +kernel) rfl rfl (Nat.le_of_ble_eq_true rfl) d_Machine_init_18 (fun H locs hP hD hS => ?_)
  have hP : va_P (dC, dI) classes [(h0, .inr (1, [.ref q1, .ref q3, .null, .null, .null, .null, .null])), (q1, .inl (cA2, 6016, .inl (fun _ => 0))), (q3, .inl (cA4, 47, .inl (fun _ => 0)))] H := hP
  have hD : va_D A [(h0, .inr (1, [.ref q1, .ref q3, .null, .null, .null, .null, .null])), (q1, .inl (cA2, 6016, .inl (fun _ => 0))), (q3, .inl (cA4, 47, .inl (fun _ => 0)))] := hD
  refine lv_aload_n hx hb d_Machine_init_21 rfl (lv_at hl 0 rfl) ?_
  refine lv_bipush (v := 47) hx hb d_Machine_init_22 (by decide) ?_
  refine va_newa (D := (dC, dI)) (atype := .int) (a0 := (47, .inl (fun _ => 0))) (ty := .int) (N' := 47) hx hb (hts (.arrayClass .int) (List.mem_of_getElem? (i := 4) rfl)) rfl hK hP hD hS hA (fun cA => rfl) (by decide) (by decide) (Nat.le_of_ble_eq_true rfl) (Nat.le_of_ble_eq_true rfl) (Nat.le_of_ble_eq_true rfl) d_Machine_init_24 (fun q5 cA6 H hK hP hD hS => ?_)
  have hP : va_P (dC, dI) classes [(h0, .inr (1, [.ref q1, .ref q3, .null, .null, .null, .null, .null])), (q1, .inl (cA2, 6016, .inl (fun _ => 0))), (q3, .inl (cA4, 47, .inl (fun _ => 0))), (q5, .inl (cA6, 47, .inl (fun _ => 0)))] H := hP
  have hK : va_K (dC, dI) classes [(cA2, .int), (cA4, .int), (cA6, .int)] s := hK
  have hD : va_D A [(h0, .inr (1, [.ref q1, .ref q3, .null, .null, .null, .null, .null])), (q1, .inl (cA2, 6016, .inl (fun _ => 0))), (q3, .inl (cA4, 47, .inl (fun _ => 0))), (q5, .inl (cA6, 47, .inl (fun _ => 0)))] := hD
  refine W.widen (k := 3) (n := 6110) (by omega) (by omega) ?_
  refine va_putF (D := (dC, dI)) (ci := 1) (v := .ref q5) (ty := .array .int) (C := R_MA) (T := T_MA) (N := 7) hx hb hts in_Machine_init_MA t_MA t_MA_ok n_MA hown hK hP hD hS 0 rfl rfl 2 (by decide) (hts (.fieldLink "Leastcode$Machine" 18 "Leastcode$Machine" "writtenParts" "[I") (List.mem_of_getElem? (i := 14) rfl)) (fun _ h9 => h9) rfl hin rfl (by decide +kernel) rfl rfl (Nat.le_of_ble_eq_true rfl) d_Machine_init_26 (fun H locs hP hD hS => ?_)
  have hP : va_P (dC, dI) classes [(h0, .inr (1, [.ref q1, .ref q3, .ref q5, .null, .null, .null, .null])), (q1, .inl (cA2, 6016, .inl (fun _ => 0))), (q3, .inl (cA4, 47, .inl (fun _ => 0))), (q5, .inl (cA6, 47, .inl (fun _ => 0)))] H := hP
  have hD : va_D A [(h0, .inr (1, [.ref q1, .ref q3, .ref q5, .null, .null, .null, .null])), (q1, .inl (cA2, 6016, .inl (fun _ => 0))), (q3, .inl (cA4, 47, .inl (fun _ => 0))), (q5, .inl (cA6, 47, .inl (fun _ => 0)))] := hD
  refine lv_aload_n hx hb d_Machine_init_29 rfl (lv_at hl 0 rfl) ?_
  refine lv_bipush (v := 47) hx hb d_Machine_init_30 (by decide) ?_
  refine va_newa (D := (dC, dI)) (atype := .int) (a0 := (47, .inl (fun _ => 0))) (ty := .int) (N' := 47) hx hb (hts (.arrayClass .int) (List.mem_of_getElem? (i := 4) rfl)) rfl hK hP hD hS hA (fun cA => rfl) (by decide) (by decide) (Nat.le_of_ble_eq_true rfl) (Nat.le_of_ble_eq_true rfl) (Nat.le_of_ble_eq_true rfl) d_Machine_init_32 (fun q7 cA8 H hK hP hD hS => ?_)
  have hP : va_P (dC, dI) classes [(h0, .inr (1, [.ref q1, .ref q3, .ref q5, .null, .null, .null, .null])), (q1, .inl (cA2, 6016, .inl (fun _ => 0))), (q3, .inl (cA4, 47, .inl (fun _ => 0))), (q5, .inl (cA6, 47, .inl (fun _ => 0))), (q7, .inl (cA8, 47, .inl (fun _ => 0)))] H := hP
  have hK : va_K (dC, dI) classes [(cA2, .int), (cA4, .int), (cA6, .int), (cA8, .int)] s := hK
  have hD : va_D A [(h0, .inr (1, [.ref q1, .ref q3, .ref q5, .null, .null, .null, .null])), (q1, .inl (cA2, 6016, .inl (fun _ => 0))), (q3, .inl (cA4, 47, .inl (fun _ => 0))), (q5, .inl (cA6, 47, .inl (fun _ => 0))), (q7, .inl (cA8, 47, .inl (fun _ => 0)))] := hD
  refine W.widen (k := 4) (n := 6157) (by omega) (by omega) ?_
  refine va_putF (D := (dC, dI)) (ci := 1) (v := .ref q7) (ty := .array .int) (C := R_MA) (T := T_MA) (N := 7) hx hb hts in_Machine_init_MA t_MA t_MA_ok n_MA hown hK hP hD hS 0 rfl rfl 3 (by decide) (hts (.fieldLink "Leastcode$Machine" 21 "Leastcode$Machine" "mirrors" "[I") (List.mem_of_getElem? (i := 15) rfl)) (fun _ h9 => h9) rfl hin rfl (by decide +kernel) rfl rfl (Nat.le_of_ble_eq_true rfl) d_Machine_init_34 (fun H locs hP hD hS => ?_)
  have hP : va_P (dC, dI) classes [(h0, .inr (1, [.ref q1, .ref q3, .ref q5, .ref q7, .null, .null, .null])), (q1, .inl (cA2, 6016, .inl (fun _ => 0))), (q3, .inl (cA4, 47, .inl (fun _ => 0))), (q5, .inl (cA6, 47, .inl (fun _ => 0))), (q7, .inl (cA8, 47, .inl (fun _ => 0)))] H := hP
  have hD : va_D A [(h0, .inr (1, [.ref q1, .ref q3, .ref q5, .ref q7, .null, .null, .null])), (q1, .inl (cA2, 6016, .inl (fun _ => 0))), (q3, .inl (cA4, 47, .inl (fun _ => 0))), (q5, .inl (cA6, 47, .inl (fun _ => 0))), (q7, .inl (cA8, 47, .inl (fun _ => 0)))] := hD
  refine lv_aload_n hx hb d_Machine_init_37 rfl (lv_at hl 0 rfl) ?_
  refine lv_sipush (v := 1024) hx hb d_Machine_init_38 (by decide) ?_
  refine va_newa (D := (dC, dI)) (atype := .long) (a0 := (1024, .inr (.inl (fun _ => 0)))) (ty := .long) (N' := 1024) hx hb (hts (.arrayClass .long) (List.mem_of_getElem? (i := 16) rfl)) rfl hK hP hD hS hA (fun cA => rfl) (by decide) (by decide) (Nat.le_of_ble_eq_true rfl) (Nat.le_of_ble_eq_true rfl) (Nat.le_of_ble_eq_true rfl) d_Machine_init_41 (fun q9 cA10 H hK hP hD hS => ?_)
  have hP : va_P (dC, dI) classes [(h0, .inr (1, [.ref q1, .ref q3, .ref q5, .ref q7, .null, .null, .null])), (q1, .inl (cA2, 6016, .inl (fun _ => 0))), (q3, .inl (cA4, 47, .inl (fun _ => 0))), (q5, .inl (cA6, 47, .inl (fun _ => 0))), (q7, .inl (cA8, 47, .inl (fun _ => 0))), (q9, .inl (cA10, 1024, .inr (.inl (fun _ => 0))))] H := hP
  have hK : va_K (dC, dI) classes [(cA2, .int), (cA4, .int), (cA6, .int), (cA8, .int), (cA10, .long)] s := hK
  have hD : va_D A [(h0, .inr (1, [.ref q1, .ref q3, .ref q5, .ref q7, .null, .null, .null])), (q1, .inl (cA2, 6016, .inl (fun _ => 0))), (q3, .inl (cA4, 47, .inl (fun _ => 0))), (q5, .inl (cA6, 47, .inl (fun _ => 0))), (q7, .inl (cA8, 47, .inl (fun _ => 0))), (q9, .inl (cA10, 1024, .inr (.inl (fun _ => 0))))] := hD
  refine W.widen (k := 5) (n := 7181) (by omega) (by omega) ?_
  refine va_putF (D := (dC, dI)) (ci := 1) (v := .ref q9) (ty := .array .long) (C := R_MA) (T := T_MA) (N := 7) hx hb hts in_Machine_init_MA t_MA t_MA_ok n_MA hown hK hP hD hS 0 rfl rfl 4 (by decide) (hts (.fieldLink "Leastcode$Machine" 24 "Leastcode$Machine" "toRegister0" "[J") (List.mem_of_getElem? (i := 17) rfl)) (fun _ h9 => h9) rfl hin rfl (by decide +kernel) rfl rfl (Nat.le_of_ble_eq_true rfl) d_Machine_init_43 (fun H locs hP hD hS => ?_)
  have hP : va_P (dC, dI) classes [(h0, .inr (1, [.ref q1, .ref q3, .ref q5, .ref q7, .ref q9, .null, .null])), (q1, .inl (cA2, 6016, .inl (fun _ => 0))), (q3, .inl (cA4, 47, .inl (fun _ => 0))), (q5, .inl (cA6, 47, .inl (fun _ => 0))), (q7, .inl (cA8, 47, .inl (fun _ => 0))), (q9, .inl (cA10, 1024, .inr (.inl (fun _ => 0))))] H := hP
  have hD : va_D A [(h0, .inr (1, [.ref q1, .ref q3, .ref q5, .ref q7, .ref q9, .null, .null])), (q1, .inl (cA2, 6016, .inl (fun _ => 0))), (q3, .inl (cA4, 47, .inl (fun _ => 0))), (q5, .inl (cA6, 47, .inl (fun _ => 0))), (q7, .inl (cA8, 47, .inl (fun _ => 0))), (q9, .inl (cA10, 1024, .inr (.inl (fun _ => 0))))] := hD
  refine lv_aload_n hx hb d_Machine_init_46 rfl (lv_at hl 0 rfl) ?_
  refine lv_sipush (v := 1024) hx hb d_Machine_init_47 (by decide) ?_
  refine va_newa (D := (dC, dI)) (atype := .long) (a0 := (1024, .inr (.inl (fun _ => 0)))) (ty := .long) (N' := 1024) hx hb (hts (.arrayClass .long) (List.mem_of_getElem? (i := 16) rfl)) rfl hK hP hD hS hA (fun cA => rfl) (by decide) (by decide) (Nat.le_of_ble_eq_true rfl) (Nat.le_of_ble_eq_true rfl) (Nat.le_of_ble_eq_true rfl) d_Machine_init_50 (fun q11 cA12 H hK hP hD hS => ?_)
  have hP : va_P (dC, dI) classes [(h0, .inr (1, [.ref q1, .ref q3, .ref q5, .ref q7, .ref q9, .null, .null])), (q1, .inl (cA2, 6016, .inl (fun _ => 0))), (q3, .inl (cA4, 47, .inl (fun _ => 0))), (q5, .inl (cA6, 47, .inl (fun _ => 0))), (q7, .inl (cA8, 47, .inl (fun _ => 0))), (q9, .inl (cA10, 1024, .inr (.inl (fun _ => 0)))), (q11, .inl (cA12, 1024, .inr (.inl (fun _ => 0))))] H := hP
  have hK : va_K (dC, dI) classes [(cA2, .int), (cA4, .int), (cA6, .int), (cA8, .int), (cA10, .long), (cA12, .long)] s := hK
  have hD : va_D A [(h0, .inr (1, [.ref q1, .ref q3, .ref q5, .ref q7, .ref q9, .null, .null])), (q1, .inl (cA2, 6016, .inl (fun _ => 0))), (q3, .inl (cA4, 47, .inl (fun _ => 0))), (q5, .inl (cA6, 47, .inl (fun _ => 0))), (q7, .inl (cA8, 47, .inl (fun _ => 0))), (q9, .inl (cA10, 1024, .inr (.inl (fun _ => 0)))), (q11, .inl (cA12, 1024, .inr (.inl (fun _ => 0))))] := hD
  refine W.widen (k := 6) (n := 8205) (by omega) (by omega) ?_
  refine va_putF (D := (dC, dI)) (ci := 1) (v := .ref q11) (ty := .array .long) (C := R_MA) (T := T_MA) (N := 7) hx hb hts in_Machine_init_MA t_MA t_MA_ok n_MA hown hK hP hD hS 0 rfl rfl 5 (by decide) (hts (.fieldLink "Leastcode$Machine" 28 "Leastcode$Machine" "toRegister1" "[J") (List.mem_of_getElem? (i := 18) rfl)) (fun _ h9 => h9) rfl hin rfl (by decide +kernel) rfl rfl (Nat.le_of_ble_eq_true rfl) d_Machine_init_52 (fun H locs hP hD hS => ?_)
  have hP : va_P (dC, dI) classes [(h0, .inr (1, [.ref q1, .ref q3, .ref q5, .ref q7, .ref q9, .ref q11, .null])), (q1, .inl (cA2, 6016, .inl (fun _ => 0))), (q3, .inl (cA4, 47, .inl (fun _ => 0))), (q5, .inl (cA6, 47, .inl (fun _ => 0))), (q7, .inl (cA8, 47, .inl (fun _ => 0))), (q9, .inl (cA10, 1024, .inr (.inl (fun _ => 0)))), (q11, .inl (cA12, 1024, .inr (.inl (fun _ => 0))))] H := hP
  have hD : va_D A [(h0, .inr (1, [.ref q1, .ref q3, .ref q5, .ref q7, .ref q9, .ref q11, .null])), (q1, .inl (cA2, 6016, .inl (fun _ => 0))), (q3, .inl (cA4, 47, .inl (fun _ => 0))), (q5, .inl (cA6, 47, .inl (fun _ => 0))), (q7, .inl (cA8, 47, .inl (fun _ => 0))), (q9, .inl (cA10, 1024, .inr (.inl (fun _ => 0)))), (q11, .inl (cA12, 1024, .inr (.inl (fun _ => 0))))] := hD
  refine lv_aload_n hx hb d_Machine_init_55 rfl (lv_at hl 0 rfl) ?_
  refine lv_sipush (v := 256) hx hb d_Machine_init_56 (by decide) ?_
  refine va_newa (D := (dC, dI)) (atype := .long) (a0 := (256, .inr (.inl (fun _ => 0)))) (ty := .long) (N' := 256) hx hb (hts (.arrayClass .long) (List.mem_of_getElem? (i := 16) rfl)) rfl hK hP hD hS hA (fun cA => rfl) (by decide) (by decide) (Nat.le_of_ble_eq_true rfl) (Nat.le_of_ble_eq_true rfl) (Nat.le_of_ble_eq_true rfl) d_Machine_init_59 (fun q13 cA14 H hK hP hD hS => ?_)
  have hP : va_P (dC, dI) classes [(h0, .inr (1, [.ref q1, .ref q3, .ref q5, .ref q7, .ref q9, .ref q11, .null])), (q1, .inl (cA2, 6016, .inl (fun _ => 0))), (q3, .inl (cA4, 47, .inl (fun _ => 0))), (q5, .inl (cA6, 47, .inl (fun _ => 0))), (q7, .inl (cA8, 47, .inl (fun _ => 0))), (q9, .inl (cA10, 1024, .inr (.inl (fun _ => 0)))), (q11, .inl (cA12, 1024, .inr (.inl (fun _ => 0)))), (q13, .inl (cA14, 256, .inr (.inl (fun _ => 0))))] H := hP
  have hK : va_K (dC, dI) classes [(cA2, .int), (cA4, .int), (cA6, .int), (cA8, .int), (cA10, .long), (cA12, .long), (cA14, .long)] s := hK
  have hD : va_D A [(h0, .inr (1, [.ref q1, .ref q3, .ref q5, .ref q7, .ref q9, .ref q11, .null])), (q1, .inl (cA2, 6016, .inl (fun _ => 0))), (q3, .inl (cA4, 47, .inl (fun _ => 0))), (q5, .inl (cA6, 47, .inl (fun _ => 0))), (q7, .inl (cA8, 47, .inl (fun _ => 0))), (q9, .inl (cA10, 1024, .inr (.inl (fun _ => 0)))), (q11, .inl (cA12, 1024, .inr (.inl (fun _ => 0)))), (q13, .inl (cA14, 256, .inr (.inl (fun _ => 0))))] := hD
  refine W.widen (k := 7) (n := 8461) (by omega) (by omega) ?_
  refine va_putF (D := (dC, dI)) (ci := 1) (v := .ref q13) (ty := .array .long) (C := R_MA) (T := T_MA) (N := 7) hx hb hts in_Machine_init_MA t_MA t_MA_ok n_MA hown hK hP hD hS 0 rfl rfl 6 (by decide) (hts (.fieldLink "Leastcode$Machine" 31 "Leastcode$Machine" "toFlag" "[J") (List.mem_of_getElem? (i := 19) rfl)) (fun _ h9 => h9) rfl hin rfl (by decide +kernel) rfl rfl (Nat.le_of_ble_eq_true rfl) d_Machine_init_61 (fun H locs hP hD hS => ?_)
  have hP : va_P (dC, dI) classes [(h0, .inr (1, [.ref q1, .ref q3, .ref q5, .ref q7, .ref q9, .ref q11, .ref q13])), (q1, .inl (cA2, 6016, .inl (fun _ => 0))), (q3, .inl (cA4, 47, .inl (fun _ => 0))), (q5, .inl (cA6, 47, .inl (fun _ => 0))), (q7, .inl (cA8, 47, .inl (fun _ => 0))), (q9, .inl (cA10, 1024, .inr (.inl (fun _ => 0)))), (q11, .inl (cA12, 1024, .inr (.inl (fun _ => 0)))), (q13, .inl (cA14, 256, .inr (.inl (fun _ => 0))))] H := hP
  have hD : va_D A [(h0, .inr (1, [.ref q1, .ref q3, .ref q5, .ref q7, .ref q9, .ref q11, .ref q13])), (q1, .inl (cA2, 6016, .inl (fun _ => 0))), (q3, .inl (cA4, 47, .inl (fun _ => 0))), (q5, .inl (cA6, 47, .inl (fun _ => 0))), (q7, .inl (cA8, 47, .inl (fun _ => 0))), (q9, .inl (cA10, 1024, .inr (.inl (fun _ => 0)))), (q11, .inl (cA12, 1024, .inr (.inl (fun _ => 0)))), (q13, .inl (cA14, 256, .inr (.inl (fun _ => 0))))] := hD
  refine lv_iconst (v := 0) hx hb d_Machine_init_64 (by decide) ?_
  refine lv_istore_n (lv' := [(1, .int 0), (0, .ref h0)]) hx hb d_Machine_init_65 rfl hl (by decide) rfl (fun ls hl => ?_)
  refine ry_abs (fun QQ hQ => ?_)
  have loop : ∀ (k i : Nat), i + k = 47 → ∀ (H : Heap) (locs : List Loc) (f1 : Nat → Int32) (f2 : Nat → Int32) (f3 : Nat → Int32) (f4 : Nat → Int32) (g1 : Nat → Int64) (g2 : Nat → Int64) (g3 : Nat → Int64) (ls : Array Slot) (x : Int32), x = nI i → va_P (dC, dI) classes [(h0, .inr (1, [.ref q1, .ref q3, .ref q5, .ref q7, .ref q9, .ref q11, .ref q13])), (q1, .inl (cA2, 6016, .inl (f1))), (q3, .inl (cA4, 47, .inl (f2))), (q5, .inl (cA6, 47, .inl (f3))), (q7, .inl (cA8, 47, .inl (f4))), (q9, .inl (cA10, 1024, .inr (.inl (g1)))), (q11, .inl (cA12, 1024, .inr (.inl (g2)))), (q13, .inl (cA14, 256, .inr (.inl (g3))))] H → va_D A [(h0, .inr (1, [.ref q1, .ref q3, .ref q5, .ref q7, .ref q9, .ref q11, .ref q13])), (q1, .inl (cA2, 6016, .inl (f1))), (q3, .inl (cA4, 47, .inl (f2))), (q5, .inl (cA6, 47, .inl (f3))), (q7, .inl (cA8, 47, .inl (f4))), (q9, .inl (cA10, 1024, .inr (.inl (g1)))), (q11, .inl (cA12, 1024, .inr (.inl (g2)))), (q13, .inl (cA14, 256, .inr (.inl (g3))))] → va_S A s.heap H locs → lv_has ls 8 [(1, .int x), (0, .ref h0)] → W p l e (headSpec w_Machine_init rm_Machine_init).room s m ([.ref h0] : List Value).toArray below meth c H locs (7) (8461) QQ (F0 m 66 ls []) := by
    intro k
    induction k with
    | zero =>
      intro i hi H locs f1 f2 f3 f4 g1 g2 g3 ls x ex0 hP hD hS hl
      obtain rfl : i = 47 := by omega
      refine lv_iload_n hx hb d_Machine_init_66 rfl (lv_at hl 0 rfl) ?_
      refine lv_bipush (v := 47) hx hb d_Machine_init_67 (by decide) ?_
      refine lv_icmp_ge (tgt := 255) hx hb d_Machine_init_69 (by decide) (fun c_69 => ?_) (fun c_69 => ?_)
      · skip
        subst hQ
        have hP9 : va_P (dC, dI) classes [(h0, .inr (1, [.ref q1, .ref q3, .ref q5, .ref q7, .ref q9, .ref q11, .ref q13])), (q1, .inl (cA2, 6016, .inl (f1)))] H := hP.sub (ws' := [(h0, .inr (1, [.ref q1, .ref q3, .ref q5, .ref q7, .ref q9, .ref q11, .ref q13])), (q1, .inl (cA2, 6016, .inl (f1)))]) [0, 1] rfl
        have hD9 := hD.sub (ws' := [(h0, .inr (1, [.ref q1, .ref q3, .ref q5, .ref q7, .ref q9, .ref q11, .ref q13])), (q1, .inl (cA2, 6016, .inl (f1)))]) [0, 1] (by decide) rfl
        have hK9 := hK.sub (tys' := [(cA2, .int)]) [0] rfl
        refine W.widen (k := 7) (n := 8461) (by omega) (by omega) ?_
        exact W.vret hx hb hr (fun t ht hW => ⟨⟨(), rfl, trivial, ⟨q1, ⟨q3, ⟨q5, ⟨q7, ⟨q9, ⟨q11, ⟨q13, ⟨cA2, ⟨f1, ⟨by rw [ht]; exact hP9, va_K.moved hW.alike hK9, hD9⟩⟩⟩⟩⟩⟩⟩⟩⟩⟩⟩, hS.F ht⟩) hS.2.2 d_Machine_init_255
      · exact absurd (by rw [ex0]; exact (show nI 47 ≤ nI 47 from nI_le (Nat.le_refl 47) (by omega))) c_69
    | succ k ih =>
      intro i hi H locs f1 f2 f3 f4 g1 g2 g3 ls x ex0 hP hD hS hl
      have hlt : i < 47 := by omega
      refine lv_iload_n hx hb d_Machine_init_66 rfl (lv_at hl 0 rfl) ?_
      refine lv_bipush (v := 47) hx hb d_Machine_init_67 (by decide) ?_
      refine lv_icmp_ge (tgt := 255) hx hb d_Machine_init_69 (by decide) (fun c_69 => ?_) (fun c_69 => ?_)
      · exact absurd c_69 (by rw [ex0]; exact (show ¬ nI 47 ≤ nI i from nI_ge hlt (by omega)))
      · skip
        refine lv_iload_n hx hb d_Machine_init_72 rfl (lv_at hl 0 rfl) ?_
        refine vp_callSi (W.runS (As := [.int x]) (rest := []) ⟨hx, hb, hml, hown, hts⟩ (c_kindOf l x) (cwS 1 hts g_Machine_init_73 rfl rfl rfl (by decide +kernel) ⟨Nat.le_of_ble_eq_true rfl, Nat.le_of_ble_eq_true rfl⟩) ⟨fun a U g mk z => z, fun U hU hW => ⟨rfl, trivial⟩⟩ rfl rfl hl.1 rfl (lv_room (Nat.le_of_ble_eq_true rfl)) d_Machine_init_73 ⟨(Nat.le_of_ble_eq_true rfl), (Nat.le_of_ble_eq_true rfl)⟩) (fun r15 hr15 => ?_)
        refine lv_istore_n (lv' := [(2, .int r15), (1, .int x), (0, .ref h0)]) hx hb d_Machine_init_76 rfl hl (by decide) rfl (fun ls hl => ?_)
        refine lv_iload_n hx hb d_Machine_init_77 rfl (lv_at hl 0 rfl) ?_
        refine vp_callSi (W.runS (As := [.int r15]) (rest := []) ⟨hx, hb, hml, hown, hts⟩ (c_letterOf l sa va r15) (cwS 1 hts g_Machine_init_78 rfl rfl rfl (by decide +kernel) ⟨Nat.le_of_ble_eq_true rfl, Nat.le_of_ble_eq_true rfl⟩) ⟨fun a U g mk z => by obtain ⟨z0, zE0, zE1, zE2, zE3, zE4, zE5, zE6⟩ := z; exact ⟨z0, zE0.moved (u := U) (U := U.calling g mk a) (Vm.Alike.refl U.vm), zE1.moved (u := U) (U := U.calling g mk a) (Vm.Alike.refl U.vm), zE2.moved (u := U) (U := U.calling g mk a) (Vm.Alike.refl U.vm), zE3.moved (u := U) (U := U.calling g mk a) (Vm.Alike.refl U.vm), zE4.moved (u := U) (U := U.calling g mk a) (Vm.Alike.refl U.vm), zE5.moved (u := U) (U := U.calling g mk a) (Vm.Alike.refl U.vm), vk_R.same (u := U) (U := U.calling g mk a) rfl zE6⟩, fun U hU hW => ⟨rfl, by (try dsimp only); rw [hU]; exact ((hE0.kept (fun a h1 h2 => hS.2.1 a h1 h2)).narrow (B := fun _ => False) (fun _ h => h.elim)).moved hW.alike, by (try dsimp only); rw [hU]; exact ((hE1.kept (fun a h1 h2 => hS.2.1 a h1 h2)).narrow (B := fun _ => False) (fun _ h => h.elim)).moved hW.alike, by (try dsimp only); rw [hU]; exact ((hE2.kept (fun a h1 h2 => hS.2.1 a h1 h2)).narrow (B := fun _ => False) (fun _ h => h.elim)).moved hW.alike, by (try dsimp only); rw [hU]; exact ((hE3.kept (fun a h1 h2 => hS.2.1 a h1 h2)).narrow (B := fun _ => False) (fun _ h => h.elim)).moved hW.alike, by (try dsimp only); rw [hU]; exact ((hE4.kept (fun a h1 h2 => hS.2.1 a h1 h2)).narrow (B := fun _ => False) (fun _ h => h.elim)).moved hW.alike, by (try dsimp only); rw [hU]; exact ((hE5.kept (fun a h1 h2 => hS.2.1 a h1 h2)).narrow (B := fun _ => False) (fun _ h => h.elim)).moved hW.alike, vk_R.warm hW hE6⟩⟩ rfl rfl hl.1 rfl (lv_room (Nat.le_of_ble_eq_true rfl)) d_Machine_init_78 ⟨(Nat.le_of_ble_eq_true rfl), (Nat.le_of_ble_eq_true rfl)⟩) (fun r16 hr16 => ?_)
        refine lv_istore_n (lv' := [(3, .int r16), (2, .int r15), (1, .int x), (0, .ref h0)]) hx hb d_Machine_init_81 rfl hl (by decide) rfl (fun ls hl => ?_)
        refine lv_iload_n hx hb d_Machine_init_82 rfl (lv_at hl 2 rfl) ?_
        refine vp_callSi (W.runS (As := [.int x]) (rest := []) ⟨hx, hb, hml, hown, hts⟩ (c_firstOf l x) (cwS 1 hts g_Machine_init_83 rfl rfl rfl (by decide +kernel) ⟨Nat.le_of_ble_eq_true rfl, Nat.le_of_ble_eq_true rfl⟩) ⟨fun a U g mk z => z, fun U hU hW => ⟨rfl, trivial⟩⟩ rfl rfl hl.1 rfl (lv_room (Nat.le_of_ble_eq_true rfl)) d_Machine_init_83 ⟨(Nat.le_of_ble_eq_true rfl), (Nat.le_of_ble_eq_true rfl)⟩) (fun r17 hr17 => ?_)
        refine lv_istore (lv' := [(4, .int r17), (3, .int r16), (2, .int r15), (1, .int x), (0, .ref h0)]) hx hb d_Machine_init_86 hl (by decide) rfl (fun ls hl => ?_)
        refine lv_iload_n hx hb d_Machine_init_88 rfl (lv_at hl 3 rfl) ?_
        refine vp_callSi (W.runS (As := [.int x]) (rest := []) ⟨hx, hb, hml, hown, hts⟩ (c_secondOf l x) (cwS 1 hts g_Machine_init_89 rfl rfl rfl (by decide +kernel) ⟨Nat.le_of_ble_eq_true rfl, Nat.le_of_ble_eq_true rfl⟩) ⟨fun a U g mk z => z, fun U hU hW => ⟨rfl, trivial⟩⟩ rfl rfl hl.1 rfl (lv_room (Nat.le_of_ble_eq_true rfl)) d_Machine_init_89 ⟨(Nat.le_of_ble_eq_true rfl), (Nat.le_of_ble_eq_true rfl)⟩) (fun r18 hr18 => ?_)
        refine lv_istore (lv' := [(5, .int r18), (4, .int r17), (3, .int r16), (2, .int r15), (1, .int x), (0, .ref h0)]) hx hb d_Machine_init_92 hl (by decide) rfl (fun ls hl => ?_)
        refine lv_aload_n hx hb d_Machine_init_94 rfl (lv_at hl 5 rfl) ?_
        refine va_get (D := (dC, dI)) (ci := 1) (v := .ref q3) (C := R_MA) (T := T_MA) (N := 7) hx hb hts in_Machine_init_MA hown hK hP 0 rfl rfl 1 (by decide) (hts (.fieldLink "Leastcode$Machine" 15 "Leastcode$Machine" "readParts" "[I") (List.mem_of_getElem? (i := 13) rfl)) (fun _ h9 => h9) rfl d_Machine_init_95 ?_
        refine lv_iload_n hx hb d_Machine_init_98 rfl (lv_at hl 4 rfl) ?_
        refine lv_iload_n hx hb d_Machine_init_99 rfl (lv_at hl 2 rfl) ?_
        refine lv_iload_n hx hb d_Machine_init_100 rfl (lv_at hl 3 rfl) ?_
        refine lv_iload hx hb d_Machine_init_101 (lv_at hl 1 rfl) ?_
        refine lv_iload hx hb d_Machine_init_103 (lv_at hl 0 rfl) ?_
        refine vp_callSi (W.runS (As := [.int r16, .int r15, .int r17, .int r18]) (rest := [.int x, .ref q3]) ⟨hx, hb, hml, hown, hts⟩ (c_partsRead l r16 r15 r17 r18) (cwS 4 hts g_Machine_init_105 rfl rfl rfl (by decide +kernel) ⟨Nat.le_of_ble_eq_true rfl, Nat.le_of_ble_eq_true rfl⟩) ⟨fun a U g mk z => z, fun U hU hW => ⟨rfl, trivial⟩⟩ rfl rfl hl.1 rfl (lv_room (Nat.le_of_ble_eq_true rfl)) d_Machine_init_105 ⟨(Nat.le_of_ble_eq_true rfl), (Nat.le_of_ble_eq_true rfl)⟩) (fun r19 hr19 => ?_)
        refine va_iast (D := (dC, dI)) hx hb hK hP hD hS 2 1 rfl rfl (by rw [ex0]; exact vp_in_nI hlt (by omega)) d_Machine_init_108 (fun H locs hP hD hS => ?_)
        have hP : va_P (dC, dI) classes [(h0, .inr (1, [.ref q1, .ref q3, .ref q5, .ref q7, .ref q9, .ref q11, .ref q13])), (q1, .inl (cA2, 6016, .inl (f1))), (q3, .inl (cA4, 47, .inl (upd f2 (x : Int32).toNatClampNeg (r19)))), (q5, .inl (cA6, 47, .inl (f3))), (q7, .inl (cA8, 47, .inl (f4))), (q9, .inl (cA10, 1024, .inr (.inl (g1)))), (q11, .inl (cA12, 1024, .inr (.inl (g2)))), (q13, .inl (cA14, 256, .inr (.inl (g3))))] H := hP
        have hD : va_D A [(h0, .inr (1, [.ref q1, .ref q3, .ref q5, .ref q7, .ref q9, .ref q11, .ref q13])), (q1, .inl (cA2, 6016, .inl (f1))), (q3, .inl (cA4, 47, .inl (upd f2 (x : Int32).toNatClampNeg (r19)))), (q5, .inl (cA6, 47, .inl (f3))), (q7, .inl (cA8, 47, .inl (f4))), (q9, .inl (cA10, 1024, .inr (.inl (g1)))), (q11, .inl (cA12, 1024, .inr (.inl (g2)))), (q13, .inl (cA14, 256, .inr (.inl (g3))))] := hD
        generalize upd f2 (x : Int32).toNatClampNeg (r19) = f20 at hP hD
        refine lv_aload_n hx hb d_Machine_init_109 rfl (lv_at hl 5 rfl) ?_
        refine va_get (D := (dC, dI)) (ci := 1) (v := .ref q5) (C := R_MA) (T := T_MA) (N := 7) hx hb hts in_Machine_init_MA hown hK hP 0 rfl rfl 2 (by decide) (hts (.fieldLink "Leastcode$Machine" 18 "Leastcode$Machine" "writtenParts" "[I") (List.mem_of_getElem? (i := 14) rfl)) (fun _ h9 => h9) rfl d_Machine_init_110 ?_
        refine lv_iload_n hx hb d_Machine_init_113 rfl (lv_at hl 4 rfl) ?_
        refine lv_iload_n hx hb d_Machine_init_114 rfl (lv_at hl 2 rfl) ?_
        refine lv_iload hx hb d_Machine_init_115 (lv_at hl 1 rfl) ?_
        refine vp_callSi (W.runS (As := [.int r16, .int r17]) (rest := [.int x, .ref q5]) ⟨hx, hb, hml, hown, hts⟩ (c_partsWritten l r16 r17) (cwS 2 hts g_Machine_init_117 rfl rfl rfl (by decide +kernel) ⟨Nat.le_of_ble_eq_true rfl, Nat.le_of_ble_eq_true rfl⟩) ⟨fun a U g mk z => z, fun U hU hW => ⟨rfl, trivial⟩⟩ rfl rfl hl.1 rfl (lv_room (Nat.le_of_ble_eq_true rfl)) d_Machine_init_117 ⟨(Nat.le_of_ble_eq_true rfl), (Nat.le_of_ble_eq_true rfl)⟩) (fun r21 hr21 => ?_)
        refine va_iast (D := (dC, dI)) hx hb hK hP hD hS 3 2 rfl rfl (by rw [ex0]; exact vp_in_nI hlt (by omega)) d_Machine_init_120 (fun H locs hP hD hS => ?_)
        have hP : va_P (dC, dI) classes [(h0, .inr (1, [.ref q1, .ref q3, .ref q5, .ref q7, .ref q9, .ref q11, .ref q13])), (q1, .inl (cA2, 6016, .inl (f1))), (q3, .inl (cA4, 47, .inl (f20))), (q5, .inl (cA6, 47, .inl (upd f3 (x : Int32).toNatClampNeg (r21)))), (q7, .inl (cA8, 47, .inl (f4))), (q9, .inl (cA10, 1024, .inr (.inl (g1)))), (q11, .inl (cA12, 1024, .inr (.inl (g2)))), (q13, .inl (cA14, 256, .inr (.inl (g3))))] H := hP
        have hD : va_D A [(h0, .inr (1, [.ref q1, .ref q3, .ref q5, .ref q7, .ref q9, .ref q11, .ref q13])), (q1, .inl (cA2, 6016, .inl (f1))), (q3, .inl (cA4, 47, .inl (f20))), (q5, .inl (cA6, 47, .inl (upd f3 (x : Int32).toNatClampNeg (r21)))), (q7, .inl (cA8, 47, .inl (f4))), (q9, .inl (cA10, 1024, .inr (.inl (g1)))), (q11, .inl (cA12, 1024, .inr (.inl (g2)))), (q13, .inl (cA14, 256, .inr (.inl (g3))))] := hD
        generalize upd f3 (x : Int32).toNatClampNeg (r21) = f22 at hP hD
        refine lv_aload_n hx hb d_Machine_init_121 rfl (lv_at hl 5 rfl) ?_
        refine va_get (D := (dC, dI)) (ci := 1) (v := .ref q7) (C := R_MA) (T := T_MA) (N := 7) hx hb hts in_Machine_init_MA hown hK hP 0 rfl rfl 3 (by decide) (hts (.fieldLink "Leastcode$Machine" 21 "Leastcode$Machine" "mirrors" "[I") (List.mem_of_getElem? (i := 15) rfl)) (fun _ h9 => h9) rfl d_Machine_init_122 ?_
        refine lv_iload_n hx hb d_Machine_init_125 rfl (lv_at hl 4 rfl) ?_
        refine lv_iload_n hx hb d_Machine_init_126 rfl (lv_at hl 3 rfl) ?_
        refine lv_iconst (v := 1) hx hb d_Machine_init_127 (by decide) ?_
        refine lv_iload hx hb d_Machine_init_128 (lv_at hl 1 rfl) ?_
        refine lv_isub hx hb d_Machine_init_130 ?_
        refine lv_topi (fun x23 ex23 => ?_)
        refine lv_iconst (v := 1) hx hb d_Machine_init_131 (by decide) ?_
        refine lv_iload hx hb d_Machine_init_132 (lv_at hl 0 rfl) ?_
        refine lv_isub hx hb d_Machine_init_134 ?_
        refine lv_topi (fun x24 ex24 => ?_)
        refine vp_callSi (W.runS (As := [.int r15, .int x23, .int x24]) (rest := [.int x, .ref q7]) ⟨hx, hb, hml, hown, hts⟩ (c_numberOf l r15 x23 x24) (cwS 3 hts g_Machine_init_135 rfl rfl rfl (by decide +kernel) ⟨Nat.le_of_ble_eq_true rfl, Nat.le_of_ble_eq_true rfl⟩) ⟨fun a U g mk z => z, fun U hU hW => ⟨rfl, trivial⟩⟩ rfl rfl hl.1 rfl (lv_room (Nat.le_of_ble_eq_true rfl)) d_Machine_init_135 ⟨(Nat.le_of_ble_eq_true rfl), (Nat.le_of_ble_eq_true rfl)⟩) (fun r25 hr25 => ?_)
        refine va_iast (D := (dC, dI)) hx hb hK hP hD hS 4 3 rfl rfl (by rw [ex0]; exact vp_in_nI hlt (by omega)) d_Machine_init_138 (fun H locs hP hD hS => ?_)
        have hP : va_P (dC, dI) classes [(h0, .inr (1, [.ref q1, .ref q3, .ref q5, .ref q7, .ref q9, .ref q11, .ref q13])), (q1, .inl (cA2, 6016, .inl (f1))), (q3, .inl (cA4, 47, .inl (f20))), (q5, .inl (cA6, 47, .inl (f22))), (q7, .inl (cA8, 47, .inl (upd f4 (x : Int32).toNatClampNeg (r25)))), (q9, .inl (cA10, 1024, .inr (.inl (g1)))), (q11, .inl (cA12, 1024, .inr (.inl (g2)))), (q13, .inl (cA14, 256, .inr (.inl (g3))))] H := hP
        have hD : va_D A [(h0, .inr (1, [.ref q1, .ref q3, .ref q5, .ref q7, .ref q9, .ref q11, .ref q13])), (q1, .inl (cA2, 6016, .inl (f1))), (q3, .inl (cA4, 47, .inl (f20))), (q5, .inl (cA6, 47, .inl (f22))), (q7, .inl (cA8, 47, .inl (upd f4 (x : Int32).toNatClampNeg (r25)))), (q9, .inl (cA10, 1024, .inr (.inl (g1)))), (q11, .inl (cA12, 1024, .inr (.inl (g2)))), (q13, .inl (cA14, 256, .inr (.inl (g3))))] := hD
        generalize upd f4 (x : Int32).toNatClampNeg (r25) = f26 at hP hD
        refine lv_iconst (v := 0) hx hb d_Machine_init_139 (by decide) ?_
        refine lv_istore (lv' := [(6, .int 0), (5, .int r18), (4, .int r17), (3, .int r16), (2, .int r15), (1, .int x), (0, .ref h0)]) hx hb d_Machine_init_140 hl (by decide) rfl (fun ls hl => ?_)
        have loopj : ∀ (kj ij : Nat), ij + kj = 128 → ∀ (H : Heap) (locs : List Loc) (f1 : Nat → Int32) (f2 : Nat → Int32) (f3 : Nat → Int32) (f4 : Nat → Int32) (g1 : Nat → Int64) (g2 : Nat → Int64) (g3 : Nat → Int64) (ls : Array Slot) (xj : Int32), xj = nI ij → va_P (dC, dI) classes [(h0, .inr (1, [.ref q1, .ref q3, .ref q5, .ref q7, .ref q9, .ref q11, .ref q13])), (q1, .inl (cA2, 6016, .inl (f1))), (q3, .inl (cA4, 47, .inl (f2))), (q5, .inl (cA6, 47, .inl (f3))), (q7, .inl (cA8, 47, .inl (f4))), (q9, .inl (cA10, 1024, .inr (.inl (g1)))), (q11, .inl (cA12, 1024, .inr (.inl (g2)))), (q13, .inl (cA14, 256, .inr (.inl (g3))))] H → va_D A [(h0, .inr (1, [.ref q1, .ref q3, .ref q5, .ref q7, .ref q9, .ref q11, .ref q13])), (q1, .inl (cA2, 6016, .inl (f1))), (q3, .inl (cA4, 47, .inl (f2))), (q5, .inl (cA6, 47, .inl (f3))), (q7, .inl (cA8, 47, .inl (f4))), (q9, .inl (cA10, 1024, .inr (.inl (g1)))), (q11, .inl (cA12, 1024, .inr (.inl (g2)))), (q13, .inl (cA14, 256, .inr (.inl (g3))))] → va_S A s.heap H locs → lv_has ls 8 [(6, .int xj), (5, .int r18), (4, .int r17), (3, .int r16), (2, .int r15), (1, .int x), (0, .ref h0)] → W p l e (headSpec w_Machine_init rm_Machine_init).room s m ([.ref h0] : List Value).toArray below meth c H locs (7) (8461) QQ (F0 m 142 ls []) := by
          intro kj
          induction kj with
          | zero =>
            intro ij hij H locs f1 f2 f3 f4 g1 g2 g3 ls xj ex0j hP hD hS hl
            obtain rfl : ij = 128 := by omega
            refine lv_iload hx hb d_Machine_init_142 (lv_at hl 0 rfl) ?_
            refine lv_sipush (v := 128) hx hb d_Machine_init_144 (by decide) ?_
            refine lv_icmp_ge (tgt := 249) hx hb d_Machine_init_147 (by decide) (fun c_147 => ?_) (fun c_147 => ?_)
            · skip
              obtain ⟨x27, ex27⟩ : ∃ y : Int32, y = x + 1 := ⟨_, rfl⟩
              refine lv_iinc (v := x27) (lv' := [(1, .int x27), (6, .int xj), (5, .int r18), (4, .int r17), (3, .int r16), (2, .int r15), (0, .ref h0)]) hx hb d_Machine_init_249 hl (k := 5) rfl (by rw [ex27]; rfl) (by decide) rfl (fun ls hl => ?_)
              refine lv_goto (tgt := 66) hx hb d_Machine_init_252 (by decide) ?_
              exact ih (i + 1) (by omega) _ _ f1 f2 f3 f4 g1 g2 g3 _ x27 (by rw [ex27, ex0]; exact nI_1 i) (hP.sub [0, 1, 2, 3, 4, 5, 6, 7] rfl) (hD.sub [0, 1, 2, 3, 4, 5, 6, 7] (by decide) rfl) hS (lv_sub hl [0, 6] rfl)
            · exact absurd (by rw [ex0j]; exact (show nI 128 ≤ nI 128 from nI_le (Nat.le_refl 128) (by omega))) c_147
          | succ kj ihj =>
            intro ij hij H locs f1 f2 f3 f4 g1 g2 g3 ls xj ex0j hP hD hS hl
            have hltj : ij < 128 := by omega
            refine lv_iload hx hb d_Machine_init_142 (lv_at hl 0 rfl) ?_
            refine lv_sipush (v := 128) hx hb d_Machine_init_144 (by decide) ?_
            refine lv_icmp_ge (tgt := 249) hx hb d_Machine_init_147 (by decide) (fun c_147 => ?_) (fun c_147 => ?_)
            · exact absurd c_147 (by rw [ex0j]; exact (show ¬ nI 128 ≤ nI ij from nI_ge hltj (by omega)))
            · skip
              refine lv_iload_n hx hb d_Machine_init_150 rfl (lv_at hl 3 rfl) ?_
              refine lv_iload hx hb d_Machine_init_151 (lv_at hl 2 rfl) ?_
              refine lv_iload hx hb d_Machine_init_153 (lv_at hl 1 rfl) ?_
              refine lv_iload hx hb d_Machine_init_155 (lv_at hl 0 rfl) ?_
              refine vp_callSi (W.runS (As := [.int r16, .int r17, .int r18, .int xj]) (rest := []) ⟨hx, hb, hml, hown, hts⟩ (c_effect l r16 r17 r18 xj) (cwS 4 hts g_Machine_init_157 rfl rfl rfl (by decide +kernel) ⟨Nat.le_of_ble_eq_true rfl, Nat.le_of_ble_eq_true rfl⟩) ⟨fun a U g mk z => z, fun U hU hW => ⟨rfl, trivial⟩⟩ rfl rfl hl.1 rfl (lv_room (Nat.le_of_ble_eq_true rfl)) d_Machine_init_157 ⟨(Nat.le_of_ble_eq_true rfl), (Nat.le_of_ble_eq_true rfl)⟩) (fun r28 hr28 => ?_)
              refine lv_istore (lv' := [(7, .int r28), (6, .int xj), (5, .int r18), (4, .int r17), (3, .int r16), (2, .int r15), (1, .int x), (0, .ref h0)]) hx hb d_Machine_init_160 hl (by decide) rfl (fun ls hl => ?_)
              refine lv_aload_n hx hb d_Machine_init_162 rfl (lv_at hl 7 rfl) ?_
              refine va_get (D := (dC, dI)) (ci := 1) (v := .ref q1) (C := R_MA) (T := T_MA) (N := 7) hx hb hts in_Machine_init_MA hown hK hP 0 rfl rfl 0 (by decide) (hts (.fieldLink "Leastcode$Machine" 9 "Leastcode$Machine" "next" "[I") (List.mem_of_getElem? (i := 12) rfl)) (fun _ h9 => h9) rfl d_Machine_init_163 ?_
              refine lv_iload_n hx hb d_Machine_init_166 rfl (lv_at hl 6 rfl) ?_
              refine lv_sipush (v := 128) hx hb d_Machine_init_167 (by decide) ?_
              refine lv_imul hx hb d_Machine_init_170 ?_
              refine lv_topi (fun x29 ex29 => ?_)
              refine lv_iload hx hb d_Machine_init_171 (lv_at hl 1 rfl) ?_
              refine lv_iadd hx hb d_Machine_init_173 ?_
              refine lv_topi (fun x30 ex30 => ?_)
              refine lv_iload hx hb d_Machine_init_174 (lv_at hl 0 rfl) ?_
              have hb176 : vp_in x30 6016 := by rw [ex30, ex29, ex0, ex0j]; rw [show nI i * 128 = nI (i * 128) from pk_mul i 128, nI_add]; exact vp_in_nI (by omega) (by omega)
              refine va_iast (D := (dC, dI)) hx hb hK hP hD hS 1 0 rfl rfl hb176 d_Machine_init_176 (fun H locs hP hD hS => ?_)
              have hP : va_P (dC, dI) classes [(h0, .inr (1, [.ref q1, .ref q3, .ref q5, .ref q7, .ref q9, .ref q11, .ref q13])), (q1, .inl (cA2, 6016, .inl (upd f1 (x30 : Int32).toNatClampNeg (r28)))), (q3, .inl (cA4, 47, .inl (f2))), (q5, .inl (cA6, 47, .inl (f3))), (q7, .inl (cA8, 47, .inl (f4))), (q9, .inl (cA10, 1024, .inr (.inl (g1)))), (q11, .inl (cA12, 1024, .inr (.inl (g2)))), (q13, .inl (cA14, 256, .inr (.inl (g3))))] H := hP
              have hD : va_D A [(h0, .inr (1, [.ref q1, .ref q3, .ref q5, .ref q7, .ref q9, .ref q11, .ref q13])), (q1, .inl (cA2, 6016, .inl (upd f1 (x30 : Int32).toNatClampNeg (r28)))), (q3, .inl (cA4, 47, .inl (f2))), (q5, .inl (cA6, 47, .inl (f3))), (q7, .inl (cA8, 47, .inl (f4))), (q9, .inl (cA10, 1024, .inr (.inl (g1)))), (q11, .inl (cA12, 1024, .inr (.inl (g2)))), (q13, .inl (cA14, 256, .inr (.inl (g3))))] := hD
              generalize upd f1 (x30 : Int32).toNatClampNeg (r28) = f31 at hP hD
              refine lv_aload_n hx hb d_Machine_init_177 rfl (lv_at hl 7 rfl) ?_
              refine va_get (D := (dC, dI)) (ci := 1) (v := .ref q9) (C := R_MA) (T := T_MA) (N := 7) hx hb hts in_Machine_init_MA hown hK hP 0 rfl rfl 4 (by decide) (hts (.fieldLink "Leastcode$Machine" 24 "Leastcode$Machine" "toRegister0" "[J") (List.mem_of_getElem? (i := 17) rfl)) (fun _ h9 => h9) rfl d_Machine_init_178 ?_
              refine lv_iload hx hb d_Machine_init_181 (lv_at hl 1 rfl) ?_
              refine lv_bipush (v := 8) hx hb d_Machine_init_183 (by decide) ?_
              refine lv_imul hx hb d_Machine_init_185 ?_
              refine lv_topi (fun x32 ex32 => ?_)
              refine lv_iload hx hb d_Machine_init_186 (lv_at hl 0 rfl) ?_
              refine lv_iconst (v := 0) hx hb d_Machine_init_188 (by decide) ?_
              refine vp_callSi (W.runS (As := [.int r28, .int 0]) (rest := [.int x32, .ref q9]) ⟨hx, hb, hml, hown, hts⟩ (c_register l r28 0) (cwS 2 hts g_Machine_init_189 rfl rfl rfl (by decide +kernel) ⟨Nat.le_of_ble_eq_true rfl, Nat.le_of_ble_eq_true rfl⟩) ⟨fun a U g mk z => z, fun U hU hW => ⟨rfl, trivial⟩⟩ rfl rfl hl.1 rfl (lv_room (Nat.le_of_ble_eq_true rfl)) d_Machine_init_189 ⟨(Nat.le_of_ble_eq_true rfl), (Nat.le_of_ble_eq_true rfl)⟩) (fun r33 hr33 => ?_)
              refine lv_iadd hx hb d_Machine_init_192 ?_
              refine lv_topi (fun x34 ex34 => ?_)
              obtain ⟨jr194, hjr194, hjre194⟩ := hr33
              have hb194 : vp_in x34 1024 := by rw [ex34, ex32, ex0j, hjre194]; rw [show nI ij * 8 = nI (ij * 8) from pk_mul ij 8, nI_add]; exact vp_in_nI (by omega) (by omega)
              refine lv_dup2_11 hx hb d_Machine_init_193 rfl rfl ?_
              refine va_lald hx hb hK hP 5 4 rfl rfl hb194 d_Machine_init_194 ?_
              refine lv_topl (fun z35 ez35 => ?_)
              refine lv_lconst (v := 1) hx hb d_Machine_init_195 (by decide) ?_
              refine lv_iload_n hx hb d_Machine_init_196 rfl (lv_at hl 6 rfl) ?_
              refine lv_lshl hx hb d_Machine_init_197 rfl ?_
              refine lv_topl (fun z36 ez36 => ?_)
              refine lv_lor hx hb d_Machine_init_198 ?_
              refine lv_topl (fun z37 ez37 => ?_)
              refine va_last (D := (dC, dI)) hx hb hK hP hD hS 5 4 rfl rfl hb194 d_Machine_init_199 (fun H locs hP hD hS => ?_)
              have hP : va_P (dC, dI) classes [(h0, .inr (1, [.ref q1, .ref q3, .ref q5, .ref q7, .ref q9, .ref q11, .ref q13])), (q1, .inl (cA2, 6016, .inl (f31))), (q3, .inl (cA4, 47, .inl (f2))), (q5, .inl (cA6, 47, .inl (f3))), (q7, .inl (cA8, 47, .inl (f4))), (q9, .inl (cA10, 1024, .inr (.inl (vp_updL g1 (x34 : Int32).toNatClampNeg (z37))))), (q11, .inl (cA12, 1024, .inr (.inl (g2)))), (q13, .inl (cA14, 256, .inr (.inl (g3))))] H := hP
              have hD : va_D A [(h0, .inr (1, [.ref q1, .ref q3, .ref q5, .ref q7, .ref q9, .ref q11, .ref q13])), (q1, .inl (cA2, 6016, .inl (f31))), (q3, .inl (cA4, 47, .inl (f2))), (q5, .inl (cA6, 47, .inl (f3))), (q7, .inl (cA8, 47, .inl (f4))), (q9, .inl (cA10, 1024, .inr (.inl (vp_updL g1 (x34 : Int32).toNatClampNeg (z37))))), (q11, .inl (cA12, 1024, .inr (.inl (g2)))), (q13, .inl (cA14, 256, .inr (.inl (g3))))] := hD
              generalize vp_updL g1 (x34 : Int32).toNatClampNeg (z37) = f38 at hP hD
              refine lv_aload_n hx hb d_Machine_init_200 rfl (lv_at hl 7 rfl) ?_
              refine va_get (D := (dC, dI)) (ci := 1) (v := .ref q11) (C := R_MA) (T := T_MA) (N := 7) hx hb hts in_Machine_init_MA hown hK hP 0 rfl rfl 5 (by decide) (hts (.fieldLink "Leastcode$Machine" 28 "Leastcode$Machine" "toRegister1" "[J") (List.mem_of_getElem? (i := 18) rfl)) (fun _ h9 => h9) rfl d_Machine_init_201 ?_
              refine lv_iload hx hb d_Machine_init_204 (lv_at hl 1 rfl) ?_
              refine lv_bipush (v := 8) hx hb d_Machine_init_206 (by decide) ?_
              refine lv_imul hx hb d_Machine_init_208 ?_
              refine lv_topi (fun x39 ex39 => ?_)
              refine lv_iload hx hb d_Machine_init_209 (lv_at hl 0 rfl) ?_
              refine lv_iconst (v := 1) hx hb d_Machine_init_211 (by decide) ?_
              refine vp_callSi (W.runS (As := [.int r28, .int 1]) (rest := [.int x39, .ref q11]) ⟨hx, hb, hml, hown, hts⟩ (c_register l r28 1) (cwS 2 hts g_Machine_init_212 rfl rfl rfl (by decide +kernel) ⟨Nat.le_of_ble_eq_true rfl, Nat.le_of_ble_eq_true rfl⟩) ⟨fun a U g mk z => z, fun U hU hW => ⟨rfl, trivial⟩⟩ rfl rfl hl.1 rfl (lv_room (Nat.le_of_ble_eq_true rfl)) d_Machine_init_212 ⟨(Nat.le_of_ble_eq_true rfl), (Nat.le_of_ble_eq_true rfl)⟩) (fun r40 hr40 => ?_)
              refine lv_iadd hx hb d_Machine_init_215 ?_
              refine lv_topi (fun x41 ex41 => ?_)
              obtain ⟨jr217, hjr217, hjre217⟩ := hr40
              have hb217 : vp_in x41 1024 := by rw [ex41, ex39, ex0j, hjre217]; rw [show nI ij * 8 = nI (ij * 8) from pk_mul ij 8, nI_add]; exact vp_in_nI (by omega) (by omega)
              refine lv_dup2_11 hx hb d_Machine_init_216 rfl rfl ?_
              refine va_lald hx hb hK hP 6 5 rfl rfl hb217 d_Machine_init_217 ?_
              refine lv_topl (fun z42 ez42 => ?_)
              refine lv_lconst (v := 1) hx hb d_Machine_init_218 (by decide) ?_
              refine lv_iload_n hx hb d_Machine_init_219 rfl (lv_at hl 6 rfl) ?_
              refine lv_lshl hx hb d_Machine_init_220 rfl ?_
              refine lv_topl (fun z43 ez43 => ?_)
              refine lv_lor hx hb d_Machine_init_221 ?_
              refine lv_topl (fun z44 ez44 => ?_)
              refine va_last (D := (dC, dI)) hx hb hK hP hD hS 6 5 rfl rfl hb217 d_Machine_init_222 (fun H locs hP hD hS => ?_)
              have hP : va_P (dC, dI) classes [(h0, .inr (1, [.ref q1, .ref q3, .ref q5, .ref q7, .ref q9, .ref q11, .ref q13])), (q1, .inl (cA2, 6016, .inl (f31))), (q3, .inl (cA4, 47, .inl (f2))), (q5, .inl (cA6, 47, .inl (f3))), (q7, .inl (cA8, 47, .inl (f4))), (q9, .inl (cA10, 1024, .inr (.inl (f38)))), (q11, .inl (cA12, 1024, .inr (.inl (vp_updL g2 (x41 : Int32).toNatClampNeg (z44))))), (q13, .inl (cA14, 256, .inr (.inl (g3))))] H := hP
              have hD : va_D A [(h0, .inr (1, [.ref q1, .ref q3, .ref q5, .ref q7, .ref q9, .ref q11, .ref q13])), (q1, .inl (cA2, 6016, .inl (f31))), (q3, .inl (cA4, 47, .inl (f2))), (q5, .inl (cA6, 47, .inl (f3))), (q7, .inl (cA8, 47, .inl (f4))), (q9, .inl (cA10, 1024, .inr (.inl (f38)))), (q11, .inl (cA12, 1024, .inr (.inl (vp_updL g2 (x41 : Int32).toNatClampNeg (z44))))), (q13, .inl (cA14, 256, .inr (.inl (g3))))] := hD
              generalize vp_updL g2 (x41 : Int32).toNatClampNeg (z44) = f45 at hP hD
              refine lv_aload_n hx hb d_Machine_init_223 rfl (lv_at hl 7 rfl) ?_
              refine va_get (D := (dC, dI)) (ci := 1) (v := .ref q13) (C := R_MA) (T := T_MA) (N := 7) hx hb hts in_Machine_init_MA hown hK hP 0 rfl rfl 6 (by decide) (hts (.fieldLink "Leastcode$Machine" 31 "Leastcode$Machine" "toFlag" "[J") (List.mem_of_getElem? (i := 19) rfl)) (fun _ h9 => h9) rfl d_Machine_init_224 ?_
              refine lv_iload hx hb d_Machine_init_227 (lv_at hl 1 rfl) ?_
              refine lv_iconst (v := 2) hx hb d_Machine_init_229 (by decide) ?_
              refine lv_imul hx hb d_Machine_init_230 ?_
              refine lv_topi (fun x46 ex46 => ?_)
              refine lv_iload hx hb d_Machine_init_231 (lv_at hl 0 rfl) ?_
              refine lv_iconst (v := 1) hx hb d_Machine_init_233 (by decide) ?_
              refine lv_iand hx hb d_Machine_init_234 ?_
              refine lv_topi (fun x47 ex47 => ?_)
              refine lv_iadd hx hb d_Machine_init_235 ?_
              refine lv_topi (fun x48 ex48 => ?_)
              obtain ⟨jf, hjf, hjfe⟩ := pk_andE r28 (m := 1) 1 (by decide)
              have hb237 : vp_in x48 256 := by rw [ex48, ex46, ex0j, ex47, hjfe]; rw [show nI ij * 2 = nI (ij * 2) from pk_mul ij 2, nI_add]; exact vp_in_nI (by omega) (by omega)
              refine lv_dup2_11 hx hb d_Machine_init_236 rfl rfl ?_
              refine va_lald hx hb hK hP 7 6 rfl rfl hb237 d_Machine_init_237 ?_
              refine lv_topl (fun z49 ez49 => ?_)
              refine lv_lconst (v := 1) hx hb d_Machine_init_238 (by decide) ?_
              refine lv_iload_n hx hb d_Machine_init_239 rfl (lv_at hl 6 rfl) ?_
              refine lv_lshl hx hb d_Machine_init_240 rfl ?_
              refine lv_topl (fun z50 ez50 => ?_)
              refine lv_lor hx hb d_Machine_init_241 ?_
              refine lv_topl (fun z51 ez51 => ?_)
              refine va_last (D := (dC, dI)) hx hb hK hP hD hS 7 6 rfl rfl hb237 d_Machine_init_242 (fun H locs hP hD hS => ?_)
              have hP : va_P (dC, dI) classes [(h0, .inr (1, [.ref q1, .ref q3, .ref q5, .ref q7, .ref q9, .ref q11, .ref q13])), (q1, .inl (cA2, 6016, .inl (f31))), (q3, .inl (cA4, 47, .inl (f2))), (q5, .inl (cA6, 47, .inl (f3))), (q7, .inl (cA8, 47, .inl (f4))), (q9, .inl (cA10, 1024, .inr (.inl (f38)))), (q11, .inl (cA12, 1024, .inr (.inl (f45)))), (q13, .inl (cA14, 256, .inr (.inl (vp_updL g3 (x48 : Int32).toNatClampNeg (z51)))))] H := hP
              have hD : va_D A [(h0, .inr (1, [.ref q1, .ref q3, .ref q5, .ref q7, .ref q9, .ref q11, .ref q13])), (q1, .inl (cA2, 6016, .inl (f31))), (q3, .inl (cA4, 47, .inl (f2))), (q5, .inl (cA6, 47, .inl (f3))), (q7, .inl (cA8, 47, .inl (f4))), (q9, .inl (cA10, 1024, .inr (.inl (f38)))), (q11, .inl (cA12, 1024, .inr (.inl (f45)))), (q13, .inl (cA14, 256, .inr (.inl (vp_updL g3 (x48 : Int32).toNatClampNeg (z51)))))] := hD
              generalize vp_updL g3 (x48 : Int32).toNatClampNeg (z51) = f52 at hP hD
              obtain ⟨x53, ex53⟩ : ∃ y : Int32, y = xj + 1 := ⟨_, rfl⟩
              refine lv_iinc (v := x53) (lv' := [(6, .int x53), (7, .int r28), (5, .int r18), (4, .int r17), (3, .int r16), (2, .int r15), (1, .int x), (0, .ref h0)]) hx hb d_Machine_init_243 hl (k := 1) rfl (by rw [ex53]; rfl) (by decide) rfl (fun ls hl => ?_)
              refine lv_goto (tgt := 142) hx hb d_Machine_init_246 (by decide) ?_
              exact ihj (ij + 1) (by omega) _ _ f31 f2 f3 f4 f38 f45 f52 _ x53 (by rw [ex53, ex0j]; exact nI_1 ij) (hP.sub [0, 1, 2, 3, 4, 5, 6, 7] rfl) (hD.sub [0, 1, 2, 3, 4, 5, 6, 7] (by decide) rfl) hS (lv_sub hl [0, 2, 3, 4, 5, 6, 7] rfl)
        exact loopj 128 0 rfl _ _ f1 f20 f22 f26 g1 g2 g3 _ _ nI_0.symm (hP.sub [0, 1, 2, 3, 4, 5, 6, 7] rfl) (hD.sub [0, 1, 2, 3, 4, 5, 6, 7] (by decide) rfl) hS (lv_sub hl [0, 1, 2, 3, 4, 5, 6] rfl)
  exact loop 47 0 rfl _ _ (fun _ => 0) (fun _ => 0) (fun _ => 0) (fun _ => 0) (fun _ => 0) (fun _ => 0) (fun _ => 0) _ _ nI_0.symm (hP.sub [0, 1, 2, 3, 4, 5, 6, 7] rfl) (hD.sub [0, 1, 2, 3, 4, 5, 6, 7] (by decide) rfl) hS (lv_sub hl [0, 1] rfl)
end
section
abbrev rm_Leastcode_init : Room := { frames := 6, cells := 127, slots := 10049, locals := 132 }
abbrev b_Leastcode_init : ByteArray := prog_1_method_1_code
def y_Leastcode_init : MethodName := ⟨"Leastcode", "<init>", "()V"⟩
def w_Leastcode_init : List Cond := [.code ⟨"Leastcode", "<init>", "()V"⟩ prog_1_method_1_code 2 none, .methodLink "Leastcode" 1 ⟨"java/lang/Object", "<init>", "()V"⟩, .instanceMethod ⟨"java/lang/Object", "<init>", "()V"⟩, .code ⟨"java/lang/Object", "<init>", "()V"⟩ object_method_1_code 1 none, .laysFinal "Leastcode$Machine" "Leastcode$Machine" "next" "[I", .laysFinal "Leastcode$Machine" "Leastcode$Machine" "readParts" "[I", .laysFinal "Leastcode$Machine" "Leastcode$Machine" "writtenParts" "[I", .laysFinal "Leastcode$Machine" "Leastcode$Machine" "mirrors" "[I", .laysFinal "Leastcode$Machine" "Leastcode$Machine" "toRegister0" "[J", .laysFinal "Leastcode$Machine" "Leastcode$Machine" "toRegister1" "[J", .laysFinal "Leastcode$Machine" "Leastcode$Machine" "toFlag" "[J", .classLink "Leastcode" 7 "Leastcode$Machine", .instantiable "Leastcode$Machine" 7, .initialized "Leastcode$Machine", .code ⟨"Leastcode$Machine", "<init>", "()V"⟩ prog_6_method_1_code 8 none, .methodLink "Leastcode$Machine" 3 ⟨"java/lang/Object", "<init>", "()V"⟩, .arrayClass .int, .fieldLink "Leastcode$Machine" 9 "Leastcode$Machine" "next" "[I", .fieldLink "Leastcode$Machine" 15 "Leastcode$Machine" "readParts" "[I", .fieldLink "Leastcode$Machine" 18 "Leastcode$Machine" "writtenParts" "[I", .fieldLink "Leastcode$Machine" 21 "Leastcode$Machine" "mirrors" "[I", .arrayClass .long, .fieldLink "Leastcode$Machine" 24 "Leastcode$Machine" "toRegister0" "[J", .fieldLink "Leastcode$Machine" 28 "Leastcode$Machine" "toRegister1" "[J", .fieldLink "Leastcode$Machine" 31 "Leastcode$Machine" "toFlag" "[J", .methodLink "Leastcode$Machine" 34 ⟨"Leastcode$Machine", "kindOf", "(I)I"⟩, .static ⟨"Leastcode$Machine", "kindOf", "(I)I"⟩, .code ⟨"Leastcode$Machine", "kindOf", "(I)I"⟩ prog_6_method_4_code 1 (some .int), .methodLink "Leastcode$Machine" 38 ⟨"Leastcode$Machine", "letterOf", "(I)C"⟩, .static ⟨"Leastcode$Machine", "letterOf", "(I)C"⟩, .code ⟨"Leastcode$Machine", "letterOf", "(I)C"⟩ prog_6_method_3_code 1 (some .char), .methodLink "Leastcode$Machine" 69 ⟨"java/lang/String", "length", "()I"⟩, .instanceMethod ⟨"java/lang/String", "length", "()I"⟩, .selects "java/lang/String" ⟨"java/lang/String", "length", "()I"⟩ ⟨"java/lang/String", "length", "()I"⟩, .initialized "java/lang/String", .code ⟨"java/lang/String", "length", "()I"⟩ prog_34_method_54_code 1 (some .int), .fieldLink "java/lang/String" 9 "java/lang/String" "value" "[B", .methodLink "java/lang/String" 335 ⟨"java/lang/String", "coder", "()B"⟩, .instanceMethod ⟨"java/lang/String", "coder", "()B"⟩, .selects "java/lang/String" ⟨"java/lang/String", "coder", "()B"⟩ ⟨"java/lang/String", "coder", "()B"⟩, .code ⟨"java/lang/String", "coder", "()B"⟩ prog_34_method_152_code 1 (some .byte), .fieldLink "java/lang/String" 38 "java/lang/String" "COMPACT_STRINGS" "Z", .fieldLink "java/lang/String" 15 "java/lang/String" "coder" "B", .methodLink "Leastcode$Machine" 75 ⟨"java/lang/String", "charAt", "(I)C"⟩, .instanceMethod ⟨"java/lang/String", "charAt", "(I)C"⟩, .selects "java/lang/String" ⟨"java/lang/String", "charAt", "(I)C"⟩ ⟨"java/lang/String", "charAt", "(I)C"⟩, .code ⟨"java/lang/String", "charAt", "(I)C"⟩ prog_34_method_56_code 2 (some .char), .methodLink "java/lang/String" 492 ⟨"java/lang/String", "isLatin1", "()Z"⟩, .instanceMethod ⟨"java/lang/String", "isLatin1", "()Z"⟩, .selects "java/lang/String" ⟨"java/lang/String", "isLatin1", "()Z"⟩ ⟨"java/lang/String", "isLatin1", "()Z"⟩, .code ⟨"java/lang/String", "isLatin1", "()Z"⟩ prog_34_method_154_code 1 (some .boolean), .methodLink "java/lang/String" 495 ⟨"java/lang/StringLatin1", "charAt", "([BI)C"⟩, .static ⟨"java/lang/StringLatin1", "charAt", "([BI)C"⟩, .initialized "java/lang/StringLatin1", .code ⟨"java/lang/StringLatin1", "charAt", "([BI)C"⟩ prog_36_method_2_code 2 (some .char), .methodLink "java/lang/StringLatin1" 9 ⟨"java/lang/String", "checkIndex", "(II)V"⟩, .static ⟨"java/lang/String", "checkIndex", "(II)V"⟩, .code ⟨"java/lang/String", "checkIndex", "(II)V"⟩ prog_34_method_155_code 2 none, .fieldLink "java/lang/String" 1053 "jdk/internal/util/Preconditions" "SIOOBE_FORMATTER" "Ljava/util/function/BiFunction;", .methodLink "java/lang/String" 1059 ⟨"jdk/internal/util/Preconditions", "checkIndex", "(IILjava/util/function/BiFunction;)I"⟩, .static ⟨"jdk/internal/util/Preconditions", "checkIndex", "(IILjava/util/function/BiFunction;)I"⟩, .initialized "jdk/internal/util/Preconditions", .code ⟨"jdk/internal/util/Preconditions", "checkIndex", "(IILjava/util/function/BiFunction;)I"⟩ prog_81_method_11_code 3 (some .int), .methodLink "Leastcode$Machine" 42 ⟨"Leastcode$Machine", "firstOf", "(I)I"⟩, .static ⟨"Leastcode$Machine", "firstOf", "(I)I"⟩, .code ⟨"Leastcode$Machine", "firstOf", "(I)I"⟩ prog_6_method_5_code 1 (some .int), .methodLink "Leastcode$Machine" 45 ⟨"Leastcode$Machine", "secondOf", "(I)I"⟩, .static ⟨"Leastcode$Machine", "secondOf", "(I)I"⟩, .code ⟨"Leastcode$Machine", "secondOf", "(I)I"⟩ prog_6_method_6_code 1 (some .int), .methodLink "Leastcode$Machine" 48 ⟨"Leastcode$Machine", "partsRead", "(CIII)I"⟩, .static ⟨"Leastcode$Machine", "partsRead", "(CIII)I"⟩, .code ⟨"Leastcode$Machine", "partsRead", "(CIII)I"⟩ prog_6_method_7_code 4 (some .int), .methodLink "Leastcode$Machine" 52 ⟨"Leastcode$Machine", "partsWritten", "(CI)I"⟩, .static ⟨"Leastcode$Machine", "partsWritten", "(CI)I"⟩, .code ⟨"Leastcode$Machine", "partsWritten", "(CI)I"⟩ prog_6_method_8_code 2 (some .int), .methodLink "Leastcode$Machine" 56 ⟨"Leastcode$Machine", "numberOf", "(III)I"⟩, .static ⟨"Leastcode$Machine", "numberOf", "(III)I"⟩, .code ⟨"Leastcode$Machine", "numberOf", "(III)I"⟩ prog_6_method_2_code 3 (some .int), .methodLink "Leastcode$Machine" 60 ⟨"Leastcode$Machine", "effect", "(CIII)I"⟩, .static ⟨"Leastcode$Machine", "effect", "(CIII)I"⟩, .code ⟨"Leastcode$Machine", "effect", "(CIII)I"⟩ prog_6_method_9_code 7 (some .int), .methodLink "Leastcode$Machine" 63 ⟨"Leastcode$Machine", "register", "(II)I"⟩, .static ⟨"Leastcode$Machine", "register", "(II)I"⟩, .code ⟨"Leastcode$Machine", "register", "(II)I"⟩ prog_6_method_10_code 2 (some .int), .methodLink "Leastcode$Machine" 78 ⟨"Leastcode$Machine", "withRegister", "(III)I"⟩, .static ⟨"Leastcode$Machine", "withRegister", "(III)I"⟩, .code ⟨"Leastcode$Machine", "withRegister", "(III)I"⟩ prog_6_method_11_code 3 (some .int), .methodLink "Leastcode$Machine" 81 ⟨"Leastcode$Machine", "withFlag", "(IZ)I"⟩, .static ⟨"Leastcode$Machine", "withFlag", "(IZ)I"⟩, .code ⟨"Leastcode$Machine", "withFlag", "(IZ)I"⟩ prog_6_method_12_code 2 (some .int), .methodLink "Leastcode" 9 ⟨"Leastcode$Machine", "<init>", "()V"⟩, .instanceMethod ⟨"Leastcode$Machine", "<init>", "()V"⟩, .laysFinal "Leastcode" "Leastcode" "machine" "LLeastcode$Machine;", .laysFinal "Leastcode" "Leastcode" "prices" "LLeastcode$Prices;", .laysFinal "Leastcode" "Leastcode" "lots" "LLeastcode$Lots;", .laysFinal "Leastcode" "Leastcode" "search" "LLeastcode$Search;", .laysFinal "Leastcode" "Leastcode" "programs" "[LLeastcode$Code;", .lays "Leastcode" "Leastcode" "programCount" "I", .laysFinal "Leastcode" "Leastcode" "goals" "[LLeastcode$Goal;", .lays "Leastcode" "Leastcode" "goalCount" "I", .laysFinal "Leastcode" "Leastcode" "rules" "[LLeastcode$Rule;", .lays "Leastcode" "Leastcode" "ruleCount" "I", .laysFinal "Leastcode" "Leastcode" "killed" "[I", .laysFinal "Leastcode" "Leastcode" "unlikeUpTo" "[I", .laysFinal "Leastcode" "Leastcode" "found" "LLeastcode$Code;", .lays "Leastcode" "Leastcode" "hasFound" "Z", .laysFinal "Leastcode" "Leastcode" "draft" "LLeastcode$Code;", .laysFinal "Leastcode" "Leastcode" "shorter" "LLeastcode$Code;", .laysFinal "Leastcode" "Leastcode" "windowGoal" "LLeastcode$Goal;", .fieldLink "Leastcode" 10 "Leastcode" "machine" "LLeastcode$Machine;", .laysFinal "Leastcode$Prices" "Leastcode$Prices" "byKind" "[I", .lays "Leastcode$Prices" "Leastcode$Prices" "waitCost" "I", .classLink "Leastcode" 16 "Leastcode$Prices", .instantiable "Leastcode$Prices" 2, .initialized "Leastcode$Prices", .code ⟨"Leastcode$Prices", "<init>", "()V"⟩ prog_7_method_1_code 1 none, .methodLink "Leastcode$Prices" 3 ⟨"java/lang/Object", "<init>", "()V"⟩, .fieldLink "Leastcode$Prices" 9 "Leastcode$Prices" "byKind" "[I", .methodLink "Leastcode$Prices" 15 ⟨"java/util/Arrays", "fill", "([II)V"⟩, .static ⟨"java/util/Arrays", "fill", "([II)V"⟩, .initialized "java/util/Arrays", .code ⟨"java/util/Arrays", "fill", "([II)V"⟩ prog_55_method_103_code 4 none, .methodLink "Leastcode" 18 ⟨"Leastcode$Prices", "<init>", "()V"⟩, .instanceMethod ⟨"Leastcode$Prices", "<init>", "()V"⟩, .fieldLink "Leastcode" 19 "Leastcode" "prices" "LLeastcode$Prices;", .lays "Leastcode$Lots" "Leastcode$Lots" "z" "I", .classLink "Leastcode" 23 "Leastcode$Lots", .instantiable "Leastcode$Lots" 1, .initialized "Leastcode$Lots", .code ⟨"Leastcode$Lots", "<init>", "()V"⟩ prog_5_method_1_code 1 none, .methodLink "Leastcode$Lots" 1 ⟨"java/lang/Object", "<init>", "()V"⟩, .fieldLink "Leastcode$Lots" 7 "Leastcode$Lots" "z" "I", .instanceMethod ⟨"Leastcode$Lots", "<init>", "()V"⟩, .fieldLink "Leastcode" 26 "Leastcode" "lots" "LLeastcode$Lots;", .laysFinal "Leastcode$Search" "Leastcode$Search" "machine" "LLeastcode$Machine;", .laysFinal "Leastcode$Search" "Leastcode$Search" "ahead" "LLeastcode$Code;", .lays "Leastcode$Search" "Leastcode$Search" "refusing" "I", .classLink "Leastcode" 30 "Leastcode$Search", .instantiable "Leastcode$Search" 3, .initialized "Leastcode$Search", .code ⟨"Leastcode$Search", "<init>", "(LLeastcode$Machine;)V"⟩ prog_9_method_1_code 2 none, .methodLink "Leastcode$Search" 3 ⟨"java/lang/Object", "<init>", "()V"⟩, .laysFinal "Leastcode$Code" "Leastcode$Code" "numbers" "[I", .lays "Leastcode$Code" "Leastcode$Code" "length" "I", .classLink "Leastcode$Search" 9 "Leastcode$Code", .instantiable "Leastcode$Code" 2, .initialized "Leastcode$Code", .code ⟨"Leastcode$Code", "<init>", "()V"⟩ prog_2_method_1_code 1 none, .methodLink "Leastcode$Code" 3 ⟨"java/lang/Object", "<init>", "()V"⟩, .fieldLink "Leastcode$Code" 9 "Leastcode$Code" "numbers" "[I", .instanceMethod ⟨"Leastcode$Code", "<init>", "()V"⟩, .fieldLink "Leastcode$Search" 12 "Leastcode$Search" "ahead" "LLeastcode$Code;", .fieldLink "Leastcode$Search" 18 "Leastcode$Search" "machine" "LLeastcode$Machine;", .methodLink "Leastcode" 32 ⟨"Leastcode$Search", "<init>", "(LLeastcode$Machine;)V"⟩, .instanceMethod ⟨"Leastcode$Search", "<init>", "(LLeastcode$Machine;)V"⟩, .fieldLink "Leastcode" 35 "Leastcode" "search" "LLeastcode$Search;", .classLink "Leastcode" 39 "Leastcode$Code", .fieldLink "Leastcode" 41 "Leastcode" "programs" "[LLeastcode$Code;", .classLink "Leastcode" 45 "Leastcode$Goal", .fieldLink "Leastcode" 47 "Leastcode" "goals" "[LLeastcode$Goal;", .classLink "Leastcode" 51 "Leastcode$Rule", .fieldLink "Leastcode" 53 "Leastcode" "rules" "[LLeastcode$Rule;", .fieldLink "Leastcode" 57 "Leastcode" "killed" "[I", .fieldLink "Leastcode" 61 "Leastcode" "unlikeUpTo" "[I", .fieldLink "Leastcode" 65 "Leastcode" "found" "LLeastcode$Code;", .fieldLink "Leastcode" 69 "Leastcode" "draft" "LLeastcode$Code;", .fieldLink "Leastcode" 72 "Leastcode" "shorter" "LLeastcode$Code;", .laysFinal "Leastcode$Goal" "Leastcode$Goal" "wanted" "[I", .lays "Leastcode$Goal" "Leastcode$Goal" "liveParts" "I", .instantiable "Leastcode$Goal" 2, .initialized "Leastcode$Goal", .code ⟨"Leastcode$Goal", "<init>", "()V"⟩ prog_4_method_1_code 1 none, .methodLink "Leastcode$Goal" 3 ⟨"java/lang/Object", "<init>", "()V"⟩, .fieldLink "Leastcode$Goal" 9 "Leastcode$Goal" "wanted" "[I", .instanceMethod ⟨"Leastcode$Goal", "<init>", "()V"⟩, .fieldLink "Leastcode" 76 "Leastcode" "windowGoal" "LLeastcode$Goal;", .laysFinal "Leastcode$Rule" "Leastcode$Rule" "left" "LLeastcode$Code;", .laysFinal "Leastcode$Rule" "Leastcode$Rule" "right" "LLeastcode$Code;", .laysFinal "Leastcode$Rule" "Leastcode$Rule" "mirroredLeft" "LLeastcode$Code;", .laysFinal "Leastcode$Rule" "Leastcode$Rule" "mirroredRight" "LLeastcode$Code;", .lays "Leastcode$Rule" "Leastcode$Rule" "kept" "I", .lays "Leastcode$Rule" "Leastcode$Rule" "mirroredKept" "I", .lays "Leastcode$Rule" "Leastcode$Rule" "taken" "I", .instantiable "Leastcode$Rule" 7, .initialized "Leastcode$Rule", .code ⟨"Leastcode$Rule", "<init>", "()V"⟩ prog_8_method_1_code 1 none, .methodLink "Leastcode$Rule" 1 ⟨"java/lang/Object", "<init>", "()V"⟩, .classLink "Leastcode$Rule" 7 "Leastcode$Code", .fieldLink "Leastcode$Rule" 10 "Leastcode$Rule" "left" "LLeastcode$Code;", .fieldLink "Leastcode$Rule" 16 "Leastcode$Rule" "right" "LLeastcode$Code;", .fieldLink "Leastcode$Rule" 19 "Leastcode$Rule" "mirroredLeft" "LLeastcode$Code;", .fieldLink "Leastcode$Rule" 22 "Leastcode$Rule" "mirroredRight" "LLeastcode$Code;", .instanceMethod ⟨"Leastcode$Rule", "<init>", "()V"⟩]
theorem d_Leastcode_init_0 : decode b_Leastcode_init 0 = .ok (.aload_n 0, 1) := by decide +kernel
theorem d_Leastcode_init_1 : decode b_Leastcode_init 1 = .ok (.invokespecial 1, 3) := by decide +kernel
theorem d_Leastcode_init_4 : decode b_Leastcode_init 4 = .ok (.aload_n 0, 1) := by decide +kernel
theorem d_Leastcode_init_5 : decode b_Leastcode_init 5 = .ok (.new 7, 3) := by decide +kernel
theorem d_Leastcode_init_8 : decode b_Leastcode_init 8 = .ok (.dup, 1) := by decide +kernel
theorem d_Leastcode_init_9 : decode b_Leastcode_init 9 = .ok (.invokespecial 9, 3) := by decide +kernel
theorem d_Leastcode_init_12 : decode b_Leastcode_init 12 = .ok (.putfield 10, 3) := by decide +kernel
theorem d_Leastcode_init_15 : decode b_Leastcode_init 15 = .ok (.aload_n 0, 1) := by decide +kernel
theorem d_Leastcode_init_16 : decode b_Leastcode_init 16 = .ok (.new 16, 3) := by decide +kernel
theorem d_Leastcode_init_19 : decode b_Leastcode_init 19 = .ok (.dup, 1) := by decide +kernel
theorem d_Leastcode_init_20 : decode b_Leastcode_init 20 = .ok (.invokespecial 18, 3) := by decide +kernel
theorem d_Leastcode_init_23 : decode b_Leastcode_init 23 = .ok (.putfield 19, 3) := by decide +kernel
theorem d_Leastcode_init_26 : decode b_Leastcode_init 26 = .ok (.aload_n 0, 1) := by decide +kernel
theorem d_Leastcode_init_27 : decode b_Leastcode_init 27 = .ok (.new 23, 3) := by decide +kernel
theorem d_Leastcode_init_30 : decode b_Leastcode_init 30 = .ok (.dup, 1) := by decide +kernel
theorem d_Leastcode_init_31 : decode b_Leastcode_init 31 = .ok (.invokespecial 25, 3) := by decide +kernel
theorem d_Leastcode_init_34 : decode b_Leastcode_init 34 = .ok (.putfield 26, 3) := by decide +kernel
theorem d_Leastcode_init_37 : decode b_Leastcode_init 37 = .ok (.aload_n 0, 1) := by decide +kernel
theorem d_Leastcode_init_38 : decode b_Leastcode_init 38 = .ok (.new 30, 3) := by decide +kernel
theorem d_Leastcode_init_41 : decode b_Leastcode_init 41 = .ok (.dup, 1) := by decide +kernel
theorem d_Leastcode_init_42 : decode b_Leastcode_init 42 = .ok (.aload_n 0, 1) := by decide +kernel
theorem d_Leastcode_init_43 : decode b_Leastcode_init 43 = .ok (.getfield 10, 3) := by decide +kernel
theorem d_Leastcode_init_46 : decode b_Leastcode_init 46 = .ok (.invokespecial 32, 3) := by decide +kernel
theorem d_Leastcode_init_49 : decode b_Leastcode_init 49 = .ok (.putfield 35, 3) := by decide +kernel
theorem d_Leastcode_init_52 : decode b_Leastcode_init 52 = .ok (.aload_n 0, 1) := by decide +kernel
theorem d_Leastcode_init_53 : decode b_Leastcode_init 53 = .ok (.bipush 8, 2) := by decide +kernel
theorem d_Leastcode_init_55 : decode b_Leastcode_init 55 = .ok (.anewarray 39, 3) := by decide +kernel
theorem d_Leastcode_init_58 : decode b_Leastcode_init 58 = .ok (.putfield 41, 3) := by decide +kernel
theorem d_Leastcode_init_61 : decode b_Leastcode_init 61 = .ok (.aload_n 0, 1) := by decide +kernel
theorem d_Leastcode_init_62 : decode b_Leastcode_init 62 = .ok (.bipush 6, 2) := by decide +kernel
theorem d_Leastcode_init_64 : decode b_Leastcode_init 64 = .ok (.anewarray 45, 3) := by decide +kernel
theorem d_Leastcode_init_67 : decode b_Leastcode_init 67 = .ok (.putfield 47, 3) := by decide +kernel
theorem d_Leastcode_init_70 : decode b_Leastcode_init 70 = .ok (.aload_n 0, 1) := by decide +kernel
theorem d_Leastcode_init_71 : decode b_Leastcode_init 71 = .ok (.bipush 8, 2) := by decide +kernel
theorem d_Leastcode_init_73 : decode b_Leastcode_init 73 = .ok (.anewarray 51, 3) := by decide +kernel
theorem d_Leastcode_init_76 : decode b_Leastcode_init 76 = .ok (.putfield 53, 3) := by decide +kernel
theorem d_Leastcode_init_79 : decode b_Leastcode_init 79 = .ok (.aload_n 0, 1) := by decide +kernel
theorem d_Leastcode_init_80 : decode b_Leastcode_init 80 = .ok (.sipush 128, 3) := by decide +kernel
theorem d_Leastcode_init_83 : decode b_Leastcode_init 83 = .ok (.newarray .int, 2) := by decide +kernel
theorem d_Leastcode_init_85 : decode b_Leastcode_init 85 = .ok (.putfield 57, 3) := by decide +kernel
theorem d_Leastcode_init_88 : decode b_Leastcode_init 88 = .ok (.aload_n 0, 1) := by decide +kernel
theorem d_Leastcode_init_89 : decode b_Leastcode_init 89 = .ok (.iconst 3, 1) := by decide +kernel
theorem d_Leastcode_init_90 : decode b_Leastcode_init 90 = .ok (.newarray .int, 2) := by decide +kernel
theorem d_Leastcode_init_92 : decode b_Leastcode_init 92 = .ok (.putfield 61, 3) := by decide +kernel
theorem d_Leastcode_init_95 : decode b_Leastcode_init 95 = .ok (.aload_n 0, 1) := by decide +kernel
theorem d_Leastcode_init_96 : decode b_Leastcode_init 96 = .ok (.new 39, 3) := by decide +kernel
theorem d_Leastcode_init_99 : decode b_Leastcode_init 99 = .ok (.dup, 1) := by decide +kernel
theorem d_Leastcode_init_100 : decode b_Leastcode_init 100 = .ok (.invokespecial 64, 3) := by decide +kernel
theorem d_Leastcode_init_103 : decode b_Leastcode_init 103 = .ok (.putfield 65, 3) := by decide +kernel
theorem d_Leastcode_init_106 : decode b_Leastcode_init 106 = .ok (.aload_n 0, 1) := by decide +kernel
theorem d_Leastcode_init_107 : decode b_Leastcode_init 107 = .ok (.new 39, 3) := by decide +kernel
theorem d_Leastcode_init_110 : decode b_Leastcode_init 110 = .ok (.dup, 1) := by decide +kernel
theorem d_Leastcode_init_111 : decode b_Leastcode_init 111 = .ok (.invokespecial 64, 3) := by decide +kernel
theorem d_Leastcode_init_114 : decode b_Leastcode_init 114 = .ok (.putfield 69, 3) := by decide +kernel
theorem d_Leastcode_init_117 : decode b_Leastcode_init 117 = .ok (.aload_n 0, 1) := by decide +kernel
theorem d_Leastcode_init_118 : decode b_Leastcode_init 118 = .ok (.new 39, 3) := by decide +kernel
theorem d_Leastcode_init_121 : decode b_Leastcode_init 121 = .ok (.dup, 1) := by decide +kernel
theorem d_Leastcode_init_122 : decode b_Leastcode_init 122 = .ok (.invokespecial 64, 3) := by decide +kernel
theorem d_Leastcode_init_125 : decode b_Leastcode_init 125 = .ok (.putfield 72, 3) := by decide +kernel
theorem d_Leastcode_init_128 : decode b_Leastcode_init 128 = .ok (.aload_n 0, 1) := by decide +kernel
theorem d_Leastcode_init_129 : decode b_Leastcode_init 129 = .ok (.new 45, 3) := by decide +kernel
theorem d_Leastcode_init_132 : decode b_Leastcode_init 132 = .ok (.dup, 1) := by decide +kernel
theorem d_Leastcode_init_133 : decode b_Leastcode_init 133 = .ok (.invokespecial 75, 3) := by decide +kernel
theorem d_Leastcode_init_136 : decode b_Leastcode_init 136 = .ok (.putfield 76, 3) := by decide +kernel
theorem d_Leastcode_init_139 : decode b_Leastcode_init 139 = .ok (.iconst 0, 1) := by decide +kernel
theorem d_Leastcode_init_140 : decode b_Leastcode_init 140 = .ok (.istore_n 1, 1) := by decide +kernel
theorem d_Leastcode_init_141 : decode b_Leastcode_init 141 = .ok (.iload_n 1, 1) := by decide +kernel
theorem d_Leastcode_init_142 : decode b_Leastcode_init 142 = .ok (.bipush 8, 2) := by decide +kernel
theorem d_Leastcode_init_144 : decode b_Leastcode_init 144 = .ok (.if_icmp .ge 22, 3) := by decide +kernel
theorem d_Leastcode_init_147 : decode b_Leastcode_init 147 = .ok (.aload_n 0, 1) := by decide +kernel
theorem d_Leastcode_init_148 : decode b_Leastcode_init 148 = .ok (.getfield 41, 3) := by decide +kernel
theorem d_Leastcode_init_151 : decode b_Leastcode_init 151 = .ok (.iload_n 1, 1) := by decide +kernel
theorem d_Leastcode_init_152 : decode b_Leastcode_init 152 = .ok (.new 39, 3) := by decide +kernel
theorem d_Leastcode_init_155 : decode b_Leastcode_init 155 = .ok (.dup, 1) := by decide +kernel
theorem d_Leastcode_init_156 : decode b_Leastcode_init 156 = .ok (.invokespecial 64, 3) := by decide +kernel
theorem d_Leastcode_init_159 : decode b_Leastcode_init 159 = .ok (.aastore, 1) := by decide +kernel
theorem d_Leastcode_init_160 : decode b_Leastcode_init 160 = .ok (.iinc 1 1, 3) := by decide +kernel
theorem d_Leastcode_init_163 : decode b_Leastcode_init 163 = .ok (.goto (-22), 3) := by decide +kernel
theorem d_Leastcode_init_166 : decode b_Leastcode_init 166 = .ok (.iconst 0, 1) := by decide +kernel
theorem d_Leastcode_init_167 : decode b_Leastcode_init 167 = .ok (.istore_n 1, 1) := by decide +kernel
theorem d_Leastcode_init_168 : decode b_Leastcode_init 168 = .ok (.iload_n 1, 1) := by decide +kernel
theorem d_Leastcode_init_169 : decode b_Leastcode_init 169 = .ok (.bipush 6, 2) := by decide +kernel
theorem d_Leastcode_init_171 : decode b_Leastcode_init 171 = .ok (.if_icmp .ge 22, 3) := by decide +kernel
theorem d_Leastcode_init_174 : decode b_Leastcode_init 174 = .ok (.aload_n 0, 1) := by decide +kernel
theorem d_Leastcode_init_175 : decode b_Leastcode_init 175 = .ok (.getfield 47, 3) := by decide +kernel
theorem d_Leastcode_init_178 : decode b_Leastcode_init 178 = .ok (.iload_n 1, 1) := by decide +kernel
theorem d_Leastcode_init_179 : decode b_Leastcode_init 179 = .ok (.new 45, 3) := by decide +kernel
theorem d_Leastcode_init_182 : decode b_Leastcode_init 182 = .ok (.dup, 1) := by decide +kernel
theorem d_Leastcode_init_183 : decode b_Leastcode_init 183 = .ok (.invokespecial 75, 3) := by decide +kernel
theorem d_Leastcode_init_186 : decode b_Leastcode_init 186 = .ok (.aastore, 1) := by decide +kernel
theorem d_Leastcode_init_187 : decode b_Leastcode_init 187 = .ok (.iinc 1 1, 3) := by decide +kernel
theorem d_Leastcode_init_190 : decode b_Leastcode_init 190 = .ok (.goto (-22), 3) := by decide +kernel
theorem d_Leastcode_init_193 : decode b_Leastcode_init 193 = .ok (.iconst 0, 1) := by decide +kernel
theorem d_Leastcode_init_194 : decode b_Leastcode_init 194 = .ok (.istore_n 1, 1) := by decide +kernel
theorem d_Leastcode_init_195 : decode b_Leastcode_init 195 = .ok (.iload_n 1, 1) := by decide +kernel
theorem d_Leastcode_init_196 : decode b_Leastcode_init 196 = .ok (.bipush 8, 2) := by decide +kernel
theorem d_Leastcode_init_198 : decode b_Leastcode_init 198 = .ok (.if_icmp .ge 22, 3) := by decide +kernel
theorem d_Leastcode_init_201 : decode b_Leastcode_init 201 = .ok (.aload_n 0, 1) := by decide +kernel
theorem d_Leastcode_init_202 : decode b_Leastcode_init 202 = .ok (.getfield 53, 3) := by decide +kernel
theorem d_Leastcode_init_205 : decode b_Leastcode_init 205 = .ok (.iload_n 1, 1) := by decide +kernel
theorem d_Leastcode_init_206 : decode b_Leastcode_init 206 = .ok (.new 51, 3) := by decide +kernel
theorem d_Leastcode_init_209 : decode b_Leastcode_init 209 = .ok (.dup, 1) := by decide +kernel
theorem d_Leastcode_init_210 : decode b_Leastcode_init 210 = .ok (.invokespecial 80, 3) := by decide +kernel
theorem d_Leastcode_init_213 : decode b_Leastcode_init 213 = .ok (.aastore, 1) := by decide +kernel
theorem d_Leastcode_init_214 : decode b_Leastcode_init 214 = .ok (.iinc 1 1, 3) := by decide +kernel
theorem d_Leastcode_init_217 : decode b_Leastcode_init 217 = .ok (.goto (-22), 3) := by decide +kernel
theorem d_Leastcode_init_220 : decode b_Leastcode_init 220 = .ok (.return_, 1) := by decide +kernel
theorem in_Leastcode_init_LC : ∀ v ∈ u_ws R_LC T_LC 17, v ∈ w_Leastcode_init := by decide +kernel
theorem in_Leastcode_init_CO : ∀ v ∈ u_ws R_CO T_CO 2, v ∈ w_Leastcode_init := by decide +kernel
theorem in_Leastcode_init_GO : ∀ v ∈ u_ws R_GO T_GO 2, v ∈ w_Leastcode_init := by decide +kernel
theorem in_Leastcode_init_LO : ∀ v ∈ u_ws R_LO T_LO 1, v ∈ w_Leastcode_init := by decide +kernel
theorem in_Leastcode_init_MA : ∀ v ∈ u_ws R_MA T_MA 7, v ∈ w_Leastcode_init := by decide +kernel
theorem in_Leastcode_init_PR : ∀ v ∈ u_ws R_PR T_PR 2, v ∈ w_Leastcode_init := by decide +kernel
theorem in_Leastcode_init_RU : ∀ v ∈ u_ws R_RU T_RU 7, v ∈ w_Leastcode_init := by decide +kernel
theorem in_Leastcode_init_SE : ∀ v ∈ u_ws R_SE T_SE 3, v ∈ w_Leastcode_init := by decide +kernel
set_option maxRecDepth 20000 in
theorem g_Leastcode_init_9 : GoodIn w_Leastcode_init (w_Machine_init) := goodIn_r _ [14, 15, 2, 3, 16, 4, 5, 6, 7, 8, 9, 10, 17, 18, 19, 20, 21, 22, 23, 24, 25, 26, 13, 27, 28, 29, 30, 31, 32, 33, 34, 35, 36, 37, 38, 39, 40, 41, 42, 43, 44, 45, 46, 47, 48, 49, 50, 51, 52, 53, 54, 55, 56, 57, 58, 59, 60, 61, 62, 63, 64, 65, 66, 67, 68, 69, 70, 71, 72, 73, 74, 75, 76, 77, 78, 79, 80, 81, 82, 83, 84, 85, 86, 87, 88, 89] rfl (by decide +kernel)
set_option maxRecDepth 20000 in
theorem g_Leastcode_init_20 : GoodIn w_Leastcode_init (w_Prices_init) := goodIn_r _ [115, 116, 2, 3, 16, 110, 111, 117, 118, 119, 120, 121] rfl (by decide +kernel)
set_option maxRecDepth 20000 in
theorem g_Leastcode_init_31 : GoodIn w_Leastcode_init (w_Lots_init) := goodIn_r _ [129, 130, 2, 3, 125, 131] rfl (by decide +kernel)
set_option maxRecDepth 20000 in
theorem g_Leastcode_init_46 : GoodIn w_Leastcode_init (w_Search_init) := goodIn_r _ [140, 141, 2, 3, 142, 143, 144, 145, 146, 147, 148, 16, 149, 150, 134, 135, 136, 151, 152] rfl (by decide +kernel)
set_option maxRecDepth 20000 in
theorem g_Leastcode_init_100 : GoodIn w_Leastcode_init (w_Code_init) := goodIn_r _ [147, 148, 2, 3, 16, 142, 143, 149] rfl (by decide +kernel)
set_option maxRecDepth 20000 in
theorem g_Leastcode_init_111 : GoodIn w_Leastcode_init (w_Code_init) := goodIn_r _ [147, 148, 2, 3, 16, 142, 143, 149] rfl (by decide +kernel)
set_option maxRecDepth 20000 in
theorem g_Leastcode_init_122 : GoodIn w_Leastcode_init (w_Code_init) := goodIn_r _ [147, 148, 2, 3, 16, 142, 143, 149] rfl (by decide +kernel)
set_option maxRecDepth 20000 in
theorem g_Leastcode_init_133 : GoodIn w_Leastcode_init (w_Goal_init) := goodIn_r _ [171, 172, 2, 3, 16, 167, 168, 173] rfl (by decide +kernel)
set_option maxRecDepth 20000 in
theorem g_Leastcode_init_156 : GoodIn w_Leastcode_init (w_Code_init) := goodIn_r _ [147, 148, 2, 3, 16, 142, 143, 149] rfl (by decide +kernel)
set_option maxRecDepth 20000 in
theorem g_Leastcode_init_210 : GoodIn w_Leastcode_init (w_Rule_init) := goodIn_r _ [185, 186, 2, 3, 142, 143, 187, 145, 146, 147, 148, 16, 149, 150, 176, 177, 178, 179, 180, 181, 182, 188, 189, 190, 191] rfl (by decide +kernel)
set_option maxRecDepth 20000 in
theorem g_Leastcode_init_183 : GoodIn w_Leastcode_init (w_Goal_init) := goodIn_r _ [171, 172, 2, 3, 16, 167, 168, 173] rfl (by decide +kernel)
set_option maxHeartbeats 4000000 in
set_option maxRecDepth 100000 in
theorem c_Leastcode_init (l : Launch) (dC : Nat → ClassId) (dI : Nat → Nat → Nat) (sa : Nat) (va : Nat) (h0 : Nat) (sz : Nat) : Met l y_Leastcode_init w_Leastcode_init rm_Leastcode_init (va_Pc [.ref h0] (fun U => U.heap.size = sz ∧ va_P (dC, dI) classes [(h0, .inr (0, [.null, .null, .null, .null, .null, .int 0, .null, .int 0, .null, .int 0, .null, .null, .null, .int 0, .null, .null, .null]))] U.heap ∧ va_K (dC, dI) classes [] U ∧ va_D (fun _ => True) [(h0, .inr (0, [.null, .null, .null, .null, .null, .int 0, .null, .int 0, .null, .int 0, .null, .null, .null, .int 0, .null, .null, .null]))] ∧ va_O "java/lang/String" sa (va_A [(h0, .inr (0, [.null, .null, .null, .null, .null, .int 0, .null, .int 0, .null, .int 0, .null, .null, .null, .int 0, .null, .null, .null]))] sz) U U.heap ∧ va_OF "java/lang/String" "value" "[B" (.ref va) sa (va_A [(h0, .inr (0, [.null, .null, .null, .null, .null, .int 0, .null, .int 0, .null, .int 0, .null, .null, .null, .int 0, .null, .null, .null]))] sz) U U.heap ∧ va_OF "java/lang/String" "coder" "B" (.int 0) sa (va_A [(h0, .inr (0, [.null, .null, .null, .null, .null, .int 0, .null, .int 0, .null, .int 0, .null, .null, .null, .int 0, .null, .null, .null]))] sz) U U.heap ∧ va_T .byte va 16 kb (va_A [(h0, .inr (0, [.null, .null, .null, .null, .null, .int 0, .null, .int 0, .null, .int 0, .null, .null, .null, .int 0, .null, .null, .null]))] sz) U U.heap ∧ va_Z "java/lang/String" "COMPACT_STRINGS" "Z" (.int 1) (va_A [(h0, .inr (0, [.null, .null, .null, .null, .null, .int 0, .null, .int 0, .null, .int 0, .null, .null, .null, .int 0, .null, .null, .null]))] sz) U U.heap ∧ va_Zq "jdk/internal/util/Preconditions" "SIOOBE_FORMATTER" "Ljava/util/function/BiFunction;" (va_A [(h0, .inr (0, [.null, .null, .null, .null, .null, .int 0, .null, .int 0, .null, .int 0, .null, .null, .null, .int 0, .null, .null, .null]))] sz) U U.heap ∧ vk_R "Leastcode$Machine" 67 "masnoxkcidlrtzbf" sa U ∧ va_Nw (.methodLinkNest "Leastcode" 25 ⟨"Leastcode$Lots", "<init>", "()V"⟩ "Leastcode") U ∧ va_Nw (.methodLinkNest "Leastcode$Search" 11 ⟨"Leastcode$Code", "<init>", "()V"⟩ "Leastcode") U ∧ va_AO "Leastcode$Code" U ∧ va_AO "Leastcode$Goal" U ∧ va_AO "Leastcode$Rule" U ∧ va_Nw (.methodLinkNest "Leastcode" 64 ⟨"Leastcode$Code", "<init>", "()V"⟩ "Leastcode") U ∧ va_Nw (.methodLinkNest "Leastcode" 75 ⟨"Leastcode$Goal", "<init>", "()V"⟩ "Leastcode") U ∧ va_Nw (.methodLinkNest "Leastcode" 80 ⟨"Leastcode$Rule", "<init>", "()V"⟩ "Leastcode") U ∧ va_Nw (.methodLinkNest "Leastcode$Rule" 9 ⟨"Leastcode$Code", "<init>", "()V"⟩ "Leastcode") U)) (va_Qv (fun (_ : Unit) => True) (fun _ t => ∃ qm : Nat, ∃ qn : Nat, ∃ qa : Nat, ∃ qb : Nat, ∃ qc : Nat, ∃ qd : Nat, ∃ qe : Nat, ∃ qf : Nat, ∃ y1 : Nat, ∃ y2 : Nat, ∃ y3 : Nat, ∃ y4 : Nat, ∃ y5 : Nat, ∃ y6 : Nat, ∃ y7 : Nat, ∃ y8 : Nat, ∃ y9 : Nat, ∃ y10 : Nat, ∃ y11 : Nat, ∃ qp : Nat, ∃ c0 : Nat, ∃ a0 : Nat, ∃ cA : ClassId, ∃ f : Nat → Int32, ∃ cB : ClassId, ∃ fp : Nat → Option Nat, ∃ cC : ClassId, ∃ fa : Nat → Int32, va_P (dC, dI) classes [(h0, .inr (0, [.ref qm, .ref y1, .ref y2, .ref y3, .ref qp, .int 0, .ref y4, .int 0, .ref y5, .int 0, .ref y6, .ref y7, .ref y8, .int 0, .ref y9, .ref y10, .ref y11])), (qm, .inr (1, [.ref qn, .ref qa, .ref qb, .ref qc, .ref qd, .ref qe, .ref qf])), (qn, .inl (cA, 6016, .inl (f))), (qp, .inl (cB, 8, .inr (.inr (.inr (.inr (fp)))))), (c0, .inr (2, [.ref a0, .int 0])), (a0, .inl (cC, 8, .inl (fa)))] t.heap ∧ va_K (dC, dI) classes [(cA, .int), (cB, .object "Leastcode$Code"), (cC, .int)] t ∧ va_D (va_A [(h0, .inr (0, [.null, .null, .null, .null, .null, .int 0, .null, .int 0, .null, .int 0, .null, .null, .null, .int 0, .null, .null, .null]))] sz) [(h0, .inr (0, [.ref qm, .ref y1, .ref y2, .ref y3, .ref qp, .int 0, .ref y4, .int 0, .ref y5, .int 0, .ref y6, .ref y7, .ref y8, .int 0, .ref y9, .ref y10, .ref y11])), (qm, .inr (1, [.ref qn, .ref qa, .ref qb, .ref qc, .ref qd, .ref qe, .ref qf])), (qn, .inl (cA, 6016, .inl (f))), (qp, .inl (cB, 8, .inr (.inr (.inr (.inr (fp)))))), (c0, .inr (2, [.ref a0, .int 0])), (a0, .inl (cC, 8, .inl (fa)))] ∧ fp 0 = some c0) (va_A [(h0, .inr (0, [.null, .null, .null, .null, .null, .int 0, .null, .int 0, .null, .int 0, .null, .null, .null, .int 0, .null, .null, .null]))] sz)) 127 10049 (va_A [(h0, .inr (0, [.null, .null, .null, .null, .null, .int 0, .null, .int 0, .null, .int 0, .null, .null, .null, .int 0, .null, .null, .null]))] sz) := by
  refine Met.ofW (cc := b_Leastcode_init) (maxL := 2) (ret := none) (by decide) rfl ?_
  intro p e s m args below meth c s₁ B hml hv
  obtain ⟨rfl, hsz, hP, hK, hD0, hE0, hE1, hE2, hE3, hE4, hE5, hE6, hE7, hE8, hE9, hE10, hE11, hE12, hE13, hE14, hE15⟩ := hv
  have hx := B.exec
  have hb := B.bytes
  have hr := B.returns
  have hts := atoms_spec (ws := w_Leastcode_init) B.pre
  have hown : s.vm.findClass "Leastcode" = some m.cls := findClass_of_methodNamed B.named
  have hlocks := B.notSynchronized
  have hin : meth.name = "<init>" := (name_of_methodNamed B.named B.method).1
  subst hsz
  have hD := hD0.self (sz := s.heap.size)
  generalize hAe : va_A [(h0, .inr (0, [.null, .null, .null, .null, .null, .int 0, .null, .int 0, .null, .int 0, .null, .null, .null, .int 0, .null, .null, .null]))] s.heap.size = A at hD hE0 hE1 hE2 hE3 hE4 hE5 hE6 hE7 hE8 hE9 hE10 hE11 hE12 hE13 hE14 hE15 ⊢
  have hA : ∀ q : Nat, s.heap.size ≤ q → A q := fun q h => by rw [← hAe]; exact Or.inr h
  have hS : va_S A s.heap s.heap [] := va_S.rf
  have hP : va_P (dC, dI) classes [(h0, .inr (0, [.null, .null, .null, .null, .null, .int 0, .null, .int 0, .null, .int 0, .null, .null, .null, .int 0, .null, .null, .null]))] s.heap := hP
  have hl := lv_entry ([.ref h0]) (n := 2) (Nat.le_of_ble_eq_true rfl)
  rw [lg_entry_eq]
  generalize (lg_sl ([.ref h0]) ++ List.replicate (2 - (lg_sl ([.ref h0])).length) Slot.unset).toArray = ls at hl ⊢
  have hl : lv_has ls 2 [(0, .ref h0)] := hl
  refine lv_aload_n hx hb d_Leastcode_init_0 rfl (lv_at hl 0 rfl) ?_
  refine W.objInit hx hb hown (hts (.methodLink "Leastcode" 1 ⟨"java/lang/Object", "<init>", "()V"⟩) (List.mem_of_getElem? (i := 1) rfl)) (hts (.instanceMethod ⟨"java/lang/Object", "<init>", "()V"⟩) (List.mem_of_getElem? (i := 2) rfl)) (hts (.code ⟨"java/lang/Object", "<init>", "()V"⟩ object_method_1_code 1 none) (List.mem_of_getElem? (i := 3) rfl)) rfl (by rw [hml]; exact hl.1) rfl d_Leastcode_init_1 (Nat.le_of_ble_eq_true rfl) (Nat.le_of_ble_eq_true rfl) ?_
  refine W.eq (g2 := F0 m 4 ls []) rfl ?_
  refine lv_aload_n hx hb d_Leastcode_init_4 rfl (lv_at hl 0 rfl) ?_
  refine va_new (D := (dC, dI)) (ci := 1) (fs := [.null, .null, .null, .null, .null, .null, .null]) (C := R_MA) (T := T_MA) (N := 7) hx hb hts in_Leastcode_init_MA t_MA t_MA_ok hown (hts (.classLink "Leastcode" 7 "Leastcode$Machine") (List.mem_of_getElem? (i := 11) rfl)) (hts (.instantiable "Leastcode$Machine" 7) (List.mem_of_getElem? (i := 12) rfl)) (hts (.initialized "Leastcode$Machine") (List.mem_of_getElem? (i := 13) rfl)) hK hP hD hS hA rfl (fun j hj => by rcases (show j = 0 ∨ j = 1 ∨ j = 2 ∨ j = 3 ∨ j = 4 ∨ j = 5 ∨ j = 6 by omega) with rfl | rfl | rfl | rfl | rfl | rfl | rfl <;> rfl) (Nat.le_of_ble_eq_true rfl) (Nat.le_of_ble_eq_true rfl) d_Leastcode_init_5 (fun q1 H hP hD hS => ?_)
  have hP : va_P (dC, dI) classes [(h0, .inr (0, [.null, .null, .null, .null, .null, .int 0, .null, .int 0, .null, .int 0, .null, .null, .null, .int 0, .null, .null, .null])), (q1, .inr (1, [.null, .null, .null, .null, .null, .null, .null]))] H := hP
  have hD : va_D A [(h0, .inr (0, [.null, .null, .null, .null, .null, .int 0, .null, .int 0, .null, .int 0, .null, .null, .null, .int 0, .null, .null, .null])), (q1, .inr (1, [.null, .null, .null, .null, .null, .null, .null]))] := hD
  refine W.widen (k := 1) (n := 7) (by omega) (by omega) ?_
  refine lv_dup hx hb d_Leastcode_init_8 rfl ?_
  have hPc : va_P (dC, dI) classes [(q1, .inr (1, [.null, .null, .null, .null, .null, .null, .null]))] _ := hP.sub (ws' := [(q1, .inr (1, [.null, .null, .null, .null, .null, .null, .null]))]) [1] rfl
  have hKc : va_K (dC, dI) classes [] s := hK.sub (tys' := []) [] rfl
  have hDc : va_D _ [(q1, .inr (1, [.null, .null, .null, .null, .null, .null, .null]))] := hD.sub (ws' := [(q1, .inr (1, [.null, .null, .null, .null, .null, .null, .null]))]) [1] (by decide) rfl
  have hFc := va_free (wc := [(q1, .inr (1, [.null, .null, .null, .null, .null, .null, .null]))]) hD hS hA [1] rfl
  refine va_callv (va_runI (As := []) (rest := [.ref q1, .ref h0]) ⟨hx, hb, hml, hown, hts⟩ (c_Machine_init l dC dI sa va q1 H.size) (cwI 0 hts g_Leastcode_init_9 rfl rfl rfl (hts (.initialized "Leastcode$Machine") (List.mem_of_getElem? (i := 13) rfl)) (hts (.methodLink "Leastcode" 9 ⟨"Leastcode$Machine", "<init>", "()V"⟩) (List.mem_of_getElem? (i := 90) rfl)) (hts (.instanceMethod ⟨"Leastcode$Machine", "<init>", "()V"⟩) (List.mem_of_getElem? (i := 91) rfl)) rfl (by decide +kernel) ⟨Nat.le_of_ble_eq_true rfl, Nat.le_of_ble_eq_true rfl⟩) ⟨fun a U g mk z => by obtain ⟨z0, z1, zP, zK, zD, zE0, zE1, zE2, zE3, zE4, zE5, zE6⟩ := z; exact ⟨z0, z1, zP, va_K.moved (u := U) (U := U.calling g mk a) (Vm.Alike.refl U.vm) zK, zD, zE0.moved (u := U) (U := U.calling g mk a) (Vm.Alike.refl U.vm), zE1.moved (u := U) (U := U.calling g mk a) (Vm.Alike.refl U.vm), zE2.moved (u := U) (U := U.calling g mk a) (Vm.Alike.refl U.vm), zE3.moved (u := U) (U := U.calling g mk a) (Vm.Alike.refl U.vm), zE4.moved (u := U) (U := U.calling g mk a) (Vm.Alike.refl U.vm), zE5.moved (u := U) (U := U.calling g mk a) (Vm.Alike.refl U.vm), vk_R.same (u := U) (U := U.calling g mk a) rfl zE6⟩, fun U hU hW => ⟨rfl, by rw [hU], by rw [hU]; exact hPc, va_K.moved hW.alike hKc, hDc.weaken (fun _ _ _ _ => trivial), by (try dsimp only); rw [hU]; exact ((hE0.kept (fun a h1 h2 => hS.2.1 a h1 h2)).narrow hFc).moved hW.alike, by (try dsimp only); rw [hU]; exact ((hE1.kept (fun a h1 h2 => hS.2.1 a h1 h2)).narrow hFc).moved hW.alike, by (try dsimp only); rw [hU]; exact ((hE2.kept (fun a h1 h2 => hS.2.1 a h1 h2)).narrow hFc).moved hW.alike, by (try dsimp only); rw [hU]; exact ((hE3.kept (fun a h1 h2 => hS.2.1 a h1 h2)).narrow hFc).moved hW.alike, by (try dsimp only); rw [hU]; exact ((hE4.kept (fun a h1 h2 => hS.2.1 a h1 h2)).narrow hFc).moved hW.alike, by (try dsimp only); rw [hU]; exact ((hE5.kept (fun a h1 h2 => hS.2.1 a h1 h2)).narrow hFc).moved hW.alike, vk_R.warm hW hE6⟩⟩ rfl rfl hl.1 rfl (lv_room (Nat.le_of_ble_eq_true rfl)) d_Leastcode_init_9 ⟨(Nat.le_of_ble_eq_true rfl), (Nat.le_of_ble_eq_true rfl)⟩) hS (fun q _ h => hFc q h) hFc (fun u t H1 locs ht hvm hr2 hB hz1 hk1 hS => ?_)
  obtain ⟨qn3, qa4, qb5, qc6, qd7, qe8, qf9, cA10, f11, hP1, hK1, hD1⟩ := hB
  rw [ht] at hP1
  have hK1 := va_K.moved hvm.symm hK1
  obtain ⟨hP, hD⟩ := va_join (wr := [(h0, .inr (0, [.null, .null, .null, .null, .null, .int 0, .null, .int 0, .null, .int 0, .null, .null, .null, .int 0, .null, .null, .null]))]) (w1 := [(q1, .inr (1, [.ref qn3, .ref qa4, .ref qb5, .ref qc6, .ref qd7, .ref qe8, .ref qf9])), (qn3, .inl (cA10, 6016, .inl (f11)))]) hP hD [1] [0] rfl rfl (by decide) (by decide) hk1 hFc hP1 hD1
  have hK := hK.app (hK1.sub (tys' := [(cA10, .int)]) [0] rfl)
  have hK : va_K (dC, dI) classes [(cA10, .int)] s := hK
  clear hPc hDc hKc hFc hP1 hD1 hK1 hk1
  generalize H1 = H at hP hS ⊢
  have hP : va_P (dC, dI) classes [(h0, .inr (0, [.null, .null, .null, .null, .null, .int 0, .null, .int 0, .null, .int 0, .null, .null, .null, .int 0, .null, .null, .null])), (q1, .inr (1, [.ref qn3, .ref qa4, .ref qb5, .ref qc6, .ref qd7, .ref qe8, .ref qf9])), (qn3, .inl (cA10, 6016, .inl (f11)))] H := hP
  have hD : va_D A [(h0, .inr (0, [.null, .null, .null, .null, .null, .int 0, .null, .int 0, .null, .int 0, .null, .null, .null, .int 0, .null, .null, .null])), (q1, .inr (1, [.ref qn3, .ref qa4, .ref qb5, .ref qc6, .ref qd7, .ref qe8, .ref qf9])), (qn3, .inl (cA10, 6016, .inl (f11)))] := hD
  refine W.widen (k := 8) (n := 8468) (by omega) (by omega) ?_
  refine va_putF (D := (dC, dI)) (ci := 0) (v := .ref q1) (ty := .object "Leastcode$Machine") (C := R_LC) (T := T_LC) (N := 17) hx hb hts in_Leastcode_init_LC t_LC t_LC_ok n_LC hown hK hP hD hS 0 rfl rfl 0 (by decide) (hts (.fieldLink "Leastcode" 10 "Leastcode" "machine" "LLeastcode$Machine;") (List.mem_of_getElem? (i := 109) rfl)) (fun _ h9 => h9) rfl hin rfl (by decide +kernel) rfl rfl (Nat.le_of_ble_eq_true rfl) d_Leastcode_init_12 (fun H locs hP hD hS => ?_)
  have hP : va_P (dC, dI) classes [(h0, .inr (0, [.ref q1, .null, .null, .null, .null, .int 0, .null, .int 0, .null, .int 0, .null, .null, .null, .int 0, .null, .null, .null])), (q1, .inr (1, [.ref qn3, .ref qa4, .ref qb5, .ref qc6, .ref qd7, .ref qe8, .ref qf9])), (qn3, .inl (cA10, 6016, .inl (f11)))] H := hP
  have hD : va_D A [(h0, .inr (0, [.ref q1, .null, .null, .null, .null, .int 0, .null, .int 0, .null, .int 0, .null, .null, .null, .int 0, .null, .null, .null])), (q1, .inr (1, [.ref qn3, .ref qa4, .ref qb5, .ref qc6, .ref qd7, .ref qe8, .ref qf9])), (qn3, .inl (cA10, 6016, .inl (f11)))] := hD
  refine lv_aload_n hx hb d_Leastcode_init_15 rfl (lv_at hl 0 rfl) ?_
  refine va_new (D := (dC, dI)) (ci := 3) (fs := [.null, .int 0]) (C := R_PR) (T := T_PR) (N := 2) hx hb hts in_Leastcode_init_PR t_PR t_PR_ok hown (hts (.classLink "Leastcode" 16 "Leastcode$Prices") (List.mem_of_getElem? (i := 112) rfl)) (hts (.instantiable "Leastcode$Prices" 2) (List.mem_of_getElem? (i := 113) rfl)) (hts (.initialized "Leastcode$Prices") (List.mem_of_getElem? (i := 114) rfl)) hK hP hD hS hA rfl (fun j hj => by rcases (show j = 0 ∨ j = 1 by omega) with rfl | rfl <;> rfl) (Nat.le_of_ble_eq_true rfl) (Nat.le_of_ble_eq_true rfl) d_Leastcode_init_16 (fun q12 H hP hD hS => ?_)
  have hP : va_P (dC, dI) classes [(h0, .inr (0, [.ref q1, .null, .null, .null, .null, .int 0, .null, .int 0, .null, .int 0, .null, .null, .null, .int 0, .null, .null, .null])), (q1, .inr (1, [.ref qn3, .ref qa4, .ref qb5, .ref qc6, .ref qd7, .ref qe8, .ref qf9])), (qn3, .inl (cA10, 6016, .inl (f11))), (q12, .inr (3, [.null, .int 0]))] H := hP
  have hD : va_D A [(h0, .inr (0, [.ref q1, .null, .null, .null, .null, .int 0, .null, .int 0, .null, .int 0, .null, .null, .null, .int 0, .null, .null, .null])), (q1, .inr (1, [.ref qn3, .ref qa4, .ref qb5, .ref qc6, .ref qd7, .ref qe8, .ref qf9])), (qn3, .inl (cA10, 6016, .inl (f11))), (q12, .inr (3, [.null, .int 0]))] := hD
  refine W.widen (k := 9) (n := 8470) (by omega) (by omega) ?_
  refine lv_dup hx hb d_Leastcode_init_19 rfl ?_
  have hPc : va_P (dC, dI) classes [(q12, .inr (3, [.null, .int 0]))] _ := hP.sub (ws' := [(q12, .inr (3, [.null, .int 0]))]) [3] rfl
  have hKc : va_K (dC, dI) classes [] s := hK.sub (tys' := []) [] rfl
  have hDc : va_D _ [(q12, .inr (3, [.null, .int 0]))] := hD.sub (ws' := [(q12, .inr (3, [.null, .int 0]))]) [3] (by decide) rfl
  have hFc := va_free (wc := [(q12, .inr (3, [.null, .int 0]))]) hD hS hA [3] rfl
  refine va_callv (va_runI (As := []) (rest := [.ref q12, .ref h0]) ⟨hx, hb, hml, hown, hts⟩ (c_Prices_init l dC dI q12 H.size) (cwI 0 hts g_Leastcode_init_20 rfl rfl rfl (hts (.initialized "Leastcode$Prices") (List.mem_of_getElem? (i := 114) rfl)) (hts (.methodLink "Leastcode" 18 ⟨"Leastcode$Prices", "<init>", "()V"⟩) (List.mem_of_getElem? (i := 122) rfl)) (hts (.instanceMethod ⟨"Leastcode$Prices", "<init>", "()V"⟩) (List.mem_of_getElem? (i := 123) rfl)) rfl (by decide +kernel) ⟨Nat.le_of_ble_eq_true rfl, Nat.le_of_ble_eq_true rfl⟩) ⟨fun a U g mk z => by obtain ⟨z0, z1, zP, zK, zD⟩ := z; exact ⟨z0, z1, zP, va_K.moved (u := U) (U := U.calling g mk a) (Vm.Alike.refl U.vm) zK, zD⟩, fun U hU hW => ⟨rfl, by rw [hU], by rw [hU]; exact hPc, va_K.moved hW.alike hKc, hDc.weaken (fun _ _ _ _ => trivial)⟩⟩ rfl rfl hl.1 rfl (lv_room (Nat.le_of_ble_eq_true rfl)) d_Leastcode_init_20 ⟨(Nat.le_of_ble_eq_true rfl), (Nat.le_of_ble_eq_true rfl)⟩) hS (fun q _ h => hFc q h) hFc (fun u t H1 locs ht hvm hr13 hB hz1 hk1 hS => ?_)
  obtain ⟨q14, hP1, hK1, hD1⟩ := hB
  rw [ht] at hP1
  have hK1 := va_K.moved hvm.symm hK1
  obtain ⟨hP, hD⟩ := va_join (wr := [(h0, .inr (0, [.ref q1, .null, .null, .null, .null, .int 0, .null, .int 0, .null, .int 0, .null, .null, .null, .int 0, .null, .null, .null])), (q1, .inr (1, [.ref qn3, .ref qa4, .ref qb5, .ref qc6, .ref qd7, .ref qe8, .ref qf9])), (qn3, .inl (cA10, 6016, .inl (f11)))]) (w1 := [(q12, .inr (3, [.ref q14, .int 0]))]) hP hD [3] [0, 1, 2] rfl rfl (by decide) (by decide) hk1 hFc hP1 hD1
  clear hPc hDc hKc hFc hP1 hD1 hK1 hk1
  generalize H1 = H at hP hS ⊢
  have hP : va_P (dC, dI) classes [(h0, .inr (0, [.ref q1, .null, .null, .null, .null, .int 0, .null, .int 0, .null, .int 0, .null, .null, .null, .int 0, .null, .null, .null])), (q1, .inr (1, [.ref qn3, .ref qa4, .ref qb5, .ref qc6, .ref qd7, .ref qe8, .ref qf9])), (qn3, .inl (cA10, 6016, .inl (f11))), (q12, .inr (3, [.ref q14, .int 0]))] H := hP
  have hD : va_D A [(h0, .inr (0, [.ref q1, .null, .null, .null, .null, .int 0, .null, .int 0, .null, .int 0, .null, .null, .null, .int 0, .null, .null, .null])), (q1, .inr (1, [.ref qn3, .ref qa4, .ref qb5, .ref qc6, .ref qd7, .ref qe8, .ref qf9])), (qn3, .inl (cA10, 6016, .inl (f11))), (q12, .inr (3, [.ref q14, .int 0]))] := hD
  refine W.widen (k := 10) (n := 8486) (by omega) (by omega) ?_
  refine va_putF (D := (dC, dI)) (ci := 0) (v := .ref q12) (ty := .object "Leastcode$Prices") (C := R_LC) (T := T_LC) (N := 17) hx hb hts in_Leastcode_init_LC t_LC t_LC_ok n_LC hown hK hP hD hS 0 rfl rfl 1 (by decide) (hts (.fieldLink "Leastcode" 19 "Leastcode" "prices" "LLeastcode$Prices;") (List.mem_of_getElem? (i := 124) rfl)) (fun _ h9 => h9) rfl hin rfl (by decide +kernel) rfl rfl (Nat.le_of_ble_eq_true rfl) d_Leastcode_init_23 (fun H locs hP hD hS => ?_)
  have hP : va_P (dC, dI) classes [(h0, .inr (0, [.ref q1, .ref q12, .null, .null, .null, .int 0, .null, .int 0, .null, .int 0, .null, .null, .null, .int 0, .null, .null, .null])), (q1, .inr (1, [.ref qn3, .ref qa4, .ref qb5, .ref qc6, .ref qd7, .ref qe8, .ref qf9])), (qn3, .inl (cA10, 6016, .inl (f11))), (q12, .inr (3, [.ref q14, .int 0]))] H := hP
  have hD : va_D A [(h0, .inr (0, [.ref q1, .ref q12, .null, .null, .null, .int 0, .null, .int 0, .null, .int 0, .null, .null, .null, .int 0, .null, .null, .null])), (q1, .inr (1, [.ref qn3, .ref qa4, .ref qb5, .ref qc6, .ref qd7, .ref qe8, .ref qf9])), (qn3, .inl (cA10, 6016, .inl (f11))), (q12, .inr (3, [.ref q14, .int 0]))] := hD
  refine lv_aload_n hx hb d_Leastcode_init_26 rfl (lv_at hl 0 rfl) ?_
  refine va_new (D := (dC, dI)) (ci := 4) (fs := [.int 0]) (C := R_LO) (T := T_LO) (N := 1) hx hb hts in_Leastcode_init_LO t_LO t_LO_ok hown (hts (.classLink "Leastcode" 23 "Leastcode$Lots") (List.mem_of_getElem? (i := 126) rfl)) (hts (.instantiable "Leastcode$Lots" 1) (List.mem_of_getElem? (i := 127) rfl)) (hts (.initialized "Leastcode$Lots") (List.mem_of_getElem? (i := 128) rfl)) hK hP hD hS hA rfl (fun j hj => by rcases (show j = 0 by omega) with rfl <;> rfl) (Nat.le_of_ble_eq_true rfl) (Nat.le_of_ble_eq_true rfl) d_Leastcode_init_27 (fun q15 H hP hD hS => ?_)
  have hP : va_P (dC, dI) classes [(h0, .inr (0, [.ref q1, .ref q12, .null, .null, .null, .int 0, .null, .int 0, .null, .int 0, .null, .null, .null, .int 0, .null, .null, .null])), (q1, .inr (1, [.ref qn3, .ref qa4, .ref qb5, .ref qc6, .ref qd7, .ref qe8, .ref qf9])), (qn3, .inl (cA10, 6016, .inl (f11))), (q12, .inr (3, [.ref q14, .int 0])), (q15, .inr (4, [.int 0]))] H := hP
  have hD : va_D A [(h0, .inr (0, [.ref q1, .ref q12, .null, .null, .null, .int 0, .null, .int 0, .null, .int 0, .null, .null, .null, .int 0, .null, .null, .null])), (q1, .inr (1, [.ref qn3, .ref qa4, .ref qb5, .ref qc6, .ref qd7, .ref qe8, .ref qf9])), (qn3, .inl (cA10, 6016, .inl (f11))), (q12, .inr (3, [.ref q14, .int 0])), (q15, .inr (4, [.int 0]))] := hD
  refine W.widen (k := 11) (n := 8487) (by omega) (by omega) ?_
  refine lv_dup hx hb d_Leastcode_init_30 rfl ?_
  have hPc : va_P (dC, dI) classes [(q15, .inr (4, [.int 0]))] _ := hP.sub (ws' := [(q15, .inr (4, [.int 0]))]) [4] rfl
  have hKc : va_K (dC, dI) classes [] s := hK.sub (tys' := []) [] rfl
  have hDc : va_D _ [(q15, .inr (4, [.int 0]))] := hD.sub (ws' := [(q15, .inr (4, [.int 0]))]) [4] (by decide) rfl
  have hFc := va_free (wc := [(q15, .inr (4, [.int 0]))]) hD hS hA [4] rfl
  refine va_callv (va_runIN (As := []) (rest := [.ref q15, .ref h0]) ⟨hx, hb, hml, hown, hts⟩ (c_Lots_init l dC dI q15 H.size) ⟨va_cnB 0 hts g_Leastcode_init_31 rfl rfl rfl hE7 (hts (.initialized "Leastcode$Lots") (List.mem_of_getElem? (i := 128) rfl)) (by decide +kernel) ⟨Nat.le_of_ble_eq_true rfl, Nat.le_of_ble_eq_true rfl⟩, rfl, (hts (.instanceMethod ⟨"Leastcode$Lots", "<init>", "()V"⟩) (List.mem_of_getElem? (i := 132) rfl))⟩ ⟨fun a U g mk z => by obtain ⟨z0, z1, zP, zK, zD⟩ := z; exact ⟨z0, z1, zP, va_K.moved (u := U) (U := U.calling g mk a) (Vm.Alike.refl U.vm) zK, zD⟩, fun U hU hW => ⟨rfl, by rw [hU], by rw [hU]; exact hPc, va_K.moved hW.alike hKc, hDc.weaken (fun _ _ _ _ => trivial)⟩⟩ rfl rfl hl.1 rfl (lv_room (Nat.le_of_ble_eq_true rfl)) d_Leastcode_init_31 ⟨(Nat.le_of_ble_eq_true rfl), (Nat.le_of_ble_eq_true rfl)⟩) hS (fun q _ h => hFc q h) hFc (fun u t H1 locs ht hvm hr16 hB hz1 hk1 hS => ?_)
  obtain ⟨hP1, hK1, hD1⟩ := hB
  rw [ht] at hP1
  have hK1 := va_K.moved hvm.symm hK1
  obtain ⟨hP, hD⟩ := va_join (wr := [(h0, .inr (0, [.ref q1, .ref q12, .null, .null, .null, .int 0, .null, .int 0, .null, .int 0, .null, .null, .null, .int 0, .null, .null, .null])), (q1, .inr (1, [.ref qn3, .ref qa4, .ref qb5, .ref qc6, .ref qd7, .ref qe8, .ref qf9])), (qn3, .inl (cA10, 6016, .inl (f11))), (q12, .inr (3, [.ref q14, .int 0]))]) (w1 := [(q15, .inr (4, [.int 1]))]) hP hD [4] [0, 1, 2, 3] rfl rfl (by decide) (by decide) hk1 hFc hP1 hD1
  clear hPc hDc hKc hFc hP1 hD1 hK1 hk1
  generalize H1 = H at hP hS ⊢
  have hP : va_P (dC, dI) classes [(h0, .inr (0, [.ref q1, .ref q12, .null, .null, .null, .int 0, .null, .int 0, .null, .int 0, .null, .null, .null, .int 0, .null, .null, .null])), (q1, .inr (1, [.ref qn3, .ref qa4, .ref qb5, .ref qc6, .ref qd7, .ref qe8, .ref qf9])), (qn3, .inl (cA10, 6016, .inl (f11))), (q12, .inr (3, [.ref q14, .int 0])), (q15, .inr (4, [.int 1]))] H := hP
  have hD : va_D A [(h0, .inr (0, [.ref q1, .ref q12, .null, .null, .null, .int 0, .null, .int 0, .null, .int 0, .null, .null, .null, .int 0, .null, .null, .null])), (q1, .inr (1, [.ref qn3, .ref qa4, .ref qb5, .ref qc6, .ref qd7, .ref qe8, .ref qf9])), (qn3, .inl (cA10, 6016, .inl (f11))), (q12, .inr (3, [.ref q14, .int 0])), (q15, .inr (4, [.int 1]))] := hD
  refine W.widen (k := 11) (n := 8487) (by omega) (by omega) ?_
  refine va_putF (D := (dC, dI)) (ci := 0) (v := .ref q15) (ty := .object "Leastcode$Lots") (C := R_LC) (T := T_LC) (N := 17) hx hb hts in_Leastcode_init_LC t_LC t_LC_ok n_LC hown hK hP hD hS 0 rfl rfl 2 (by decide) (hts (.fieldLink "Leastcode" 26 "Leastcode" "lots" "LLeastcode$Lots;") (List.mem_of_getElem? (i := 133) rfl)) (fun _ h9 => h9) rfl hin rfl (by decide +kernel) rfl rfl (Nat.le_of_ble_eq_true rfl) d_Leastcode_init_34 (fun H locs hP hD hS => ?_)
  have hP : va_P (dC, dI) classes [(h0, .inr (0, [.ref q1, .ref q12, .ref q15, .null, .null, .int 0, .null, .int 0, .null, .int 0, .null, .null, .null, .int 0, .null, .null, .null])), (q1, .inr (1, [.ref qn3, .ref qa4, .ref qb5, .ref qc6, .ref qd7, .ref qe8, .ref qf9])), (qn3, .inl (cA10, 6016, .inl (f11))), (q12, .inr (3, [.ref q14, .int 0])), (q15, .inr (4, [.int 1]))] H := hP
  have hD : va_D A [(h0, .inr (0, [.ref q1, .ref q12, .ref q15, .null, .null, .int 0, .null, .int 0, .null, .int 0, .null, .null, .null, .int 0, .null, .null, .null])), (q1, .inr (1, [.ref qn3, .ref qa4, .ref qb5, .ref qc6, .ref qd7, .ref qe8, .ref qf9])), (qn3, .inl (cA10, 6016, .inl (f11))), (q12, .inr (3, [.ref q14, .int 0])), (q15, .inr (4, [.int 1]))] := hD
  refine lv_aload_n hx hb d_Leastcode_init_37 rfl (lv_at hl 0 rfl) ?_
  refine va_new (D := (dC, dI)) (ci := 5) (fs := [.null, .null, .int 0]) (C := R_SE) (T := T_SE) (N := 3) hx hb hts in_Leastcode_init_SE t_SE t_SE_ok hown (hts (.classLink "Leastcode" 30 "Leastcode$Search") (List.mem_of_getElem? (i := 137) rfl)) (hts (.instantiable "Leastcode$Search" 3) (List.mem_of_getElem? (i := 138) rfl)) (hts (.initialized "Leastcode$Search") (List.mem_of_getElem? (i := 139) rfl)) hK hP hD hS hA rfl (fun j hj => by rcases (show j = 0 ∨ j = 1 ∨ j = 2 by omega) with rfl | rfl | rfl <;> rfl) (Nat.le_of_ble_eq_true rfl) (Nat.le_of_ble_eq_true rfl) d_Leastcode_init_38 (fun q17 H hP hD hS => ?_)
  have hP : va_P (dC, dI) classes [(h0, .inr (0, [.ref q1, .ref q12, .ref q15, .null, .null, .int 0, .null, .int 0, .null, .int 0, .null, .null, .null, .int 0, .null, .null, .null])), (q1, .inr (1, [.ref qn3, .ref qa4, .ref qb5, .ref qc6, .ref qd7, .ref qe8, .ref qf9])), (qn3, .inl (cA10, 6016, .inl (f11))), (q12, .inr (3, [.ref q14, .int 0])), (q15, .inr (4, [.int 1])), (q17, .inr (5, [.null, .null, .int 0]))] H := hP
  have hD : va_D A [(h0, .inr (0, [.ref q1, .ref q12, .ref q15, .null, .null, .int 0, .null, .int 0, .null, .int 0, .null, .null, .null, .int 0, .null, .null, .null])), (q1, .inr (1, [.ref qn3, .ref qa4, .ref qb5, .ref qc6, .ref qd7, .ref qe8, .ref qf9])), (qn3, .inl (cA10, 6016, .inl (f11))), (q12, .inr (3, [.ref q14, .int 0])), (q15, .inr (4, [.int 1])), (q17, .inr (5, [.null, .null, .int 0]))] := hD
  refine W.widen (k := 12) (n := 8490) (by omega) (by omega) ?_
  refine lv_dup hx hb d_Leastcode_init_41 rfl ?_
  refine lv_aload_n hx hb d_Leastcode_init_42 rfl (lv_at hl 0 rfl) ?_
  refine va_get (D := (dC, dI)) (ci := 0) (v := .ref q1) (C := R_LC) (T := T_LC) (N := 17) hx hb hts in_Leastcode_init_LC hown hK hP 0 rfl rfl 0 (by decide) (hts (.fieldLink "Leastcode" 10 "Leastcode" "machine" "LLeastcode$Machine;") (List.mem_of_getElem? (i := 109) rfl)) (fun _ h9 => h9) rfl d_Leastcode_init_43 ?_
  have hPc : va_P (dC, dI) classes [(q17, .inr (5, [.null, .null, .int 0]))] _ := hP.sub (ws' := [(q17, .inr (5, [.null, .null, .int 0]))]) [5] rfl
  have hKc : va_K (dC, dI) classes [] s := hK.sub (tys' := []) [] rfl
  have hDc : va_D _ [(q17, .inr (5, [.null, .null, .int 0]))] := hD.sub (ws' := [(q17, .inr (5, [.null, .null, .int 0]))]) [5] (by decide) rfl
  have hFc := va_free (wc := [(q17, .inr (5, [.null, .null, .int 0]))]) hD hS hA [5] rfl
  refine va_callv (va_runI (As := [.ref q1]) (rest := [.ref q17, .ref h0]) ⟨hx, hb, hml, hown, hts⟩ (c_Search_init l dC dI q17 q1 H.size) (cwI 1 hts g_Leastcode_init_46 rfl rfl rfl (hts (.initialized "Leastcode$Search") (List.mem_of_getElem? (i := 139) rfl)) (hts (.methodLink "Leastcode" 32 ⟨"Leastcode$Search", "<init>", "(LLeastcode$Machine;)V"⟩) (List.mem_of_getElem? (i := 153) rfl)) (hts (.instanceMethod ⟨"Leastcode$Search", "<init>", "(LLeastcode$Machine;)V"⟩) (List.mem_of_getElem? (i := 154) rfl)) rfl (by decide +kernel) ⟨Nat.le_of_ble_eq_true rfl, Nat.le_of_ble_eq_true rfl⟩) ⟨fun a U g mk z => by obtain ⟨z0, z1, zP, zK, zD, zE0⟩ := z; exact ⟨z0, z1, zP, va_K.moved (u := U) (U := U.calling g mk a) (Vm.Alike.refl U.vm) zK, zD, va_Nw.same rfl (u := U) (U := U.calling g mk a) rfl zE0⟩, fun U hU hW => ⟨rfl, by rw [hU], by rw [hU]; exact hPc, va_K.moved hW.alike hKc, hDc.weaken (fun _ _ _ _ => trivial), va_Nw.warmM hW hE8⟩⟩ rfl rfl hl.1 rfl (lv_room (Nat.le_of_ble_eq_true rfl)) d_Leastcode_init_46 ⟨(Nat.le_of_ble_eq_true rfl), (Nat.le_of_ble_eq_true rfl)⟩) hS (fun q _ h => hFc q h) hFc (fun u t H1 locs ht hvm hr18 hB hz1 hk1 hS => ?_)
  obtain ⟨qa19, hP1, hK1, hD1⟩ := hB
  rw [ht] at hP1
  have hK1 := va_K.moved hvm.symm hK1
  obtain ⟨hP, hD⟩ := va_join (wr := [(h0, .inr (0, [.ref q1, .ref q12, .ref q15, .null, .null, .int 0, .null, .int 0, .null, .int 0, .null, .null, .null, .int 0, .null, .null, .null])), (q1, .inr (1, [.ref qn3, .ref qa4, .ref qb5, .ref qc6, .ref qd7, .ref qe8, .ref qf9])), (qn3, .inl (cA10, 6016, .inl (f11))), (q12, .inr (3, [.ref q14, .int 0])), (q15, .inr (4, [.int 1]))]) (w1 := [(q17, .inr (5, [.ref q1, .ref qa19, .int 0]))]) hP hD [5] [0, 1, 2, 3, 4] rfl rfl (by decide) (by decide) hk1 hFc hP1 hD1
  clear hPc hDc hKc hFc hP1 hD1 hK1 hk1
  generalize H1 = H at hP hS ⊢
  have hP : va_P (dC, dI) classes [(h0, .inr (0, [.ref q1, .ref q12, .ref q15, .null, .null, .int 0, .null, .int 0, .null, .int 0, .null, .null, .null, .int 0, .null, .null, .null])), (q1, .inr (1, [.ref qn3, .ref qa4, .ref qb5, .ref qc6, .ref qd7, .ref qe8, .ref qf9])), (qn3, .inl (cA10, 6016, .inl (f11))), (q12, .inr (3, [.ref q14, .int 0])), (q15, .inr (4, [.int 1])), (q17, .inr (5, [.ref q1, .ref qa19, .int 0]))] H := hP
  have hD : va_D A [(h0, .inr (0, [.ref q1, .ref q12, .ref q15, .null, .null, .int 0, .null, .int 0, .null, .int 0, .null, .null, .null, .int 0, .null, .null, .null])), (q1, .inr (1, [.ref qn3, .ref qa4, .ref qb5, .ref qc6, .ref qd7, .ref qe8, .ref qf9])), (qn3, .inl (cA10, 6016, .inl (f11))), (q12, .inr (3, [.ref q14, .int 0])), (q15, .inr (4, [.int 1])), (q17, .inr (5, [.ref q1, .ref qa19, .int 0]))] := hD
  refine W.widen (k := 14) (n := 8500) (by omega) (by omega) ?_
  refine va_putF (D := (dC, dI)) (ci := 0) (v := .ref q17) (ty := .object "Leastcode$Search") (C := R_LC) (T := T_LC) (N := 17) hx hb hts in_Leastcode_init_LC t_LC t_LC_ok n_LC hown hK hP hD hS 0 rfl rfl 3 (by decide) (hts (.fieldLink "Leastcode" 35 "Leastcode" "search" "LLeastcode$Search;") (List.mem_of_getElem? (i := 155) rfl)) (fun _ h9 => h9) rfl hin rfl (by decide +kernel) rfl rfl (Nat.le_of_ble_eq_true rfl) d_Leastcode_init_49 (fun H locs hP hD hS => ?_)
  have hP : va_P (dC, dI) classes [(h0, .inr (0, [.ref q1, .ref q12, .ref q15, .ref q17, .null, .int 0, .null, .int 0, .null, .int 0, .null, .null, .null, .int 0, .null, .null, .null])), (q1, .inr (1, [.ref qn3, .ref qa4, .ref qb5, .ref qc6, .ref qd7, .ref qe8, .ref qf9])), (qn3, .inl (cA10, 6016, .inl (f11))), (q12, .inr (3, [.ref q14, .int 0])), (q15, .inr (4, [.int 1])), (q17, .inr (5, [.ref q1, .ref qa19, .int 0]))] H := hP
  have hD : va_D A [(h0, .inr (0, [.ref q1, .ref q12, .ref q15, .ref q17, .null, .int 0, .null, .int 0, .null, .int 0, .null, .null, .null, .int 0, .null, .null, .null])), (q1, .inr (1, [.ref qn3, .ref qa4, .ref qb5, .ref qc6, .ref qd7, .ref qe8, .ref qf9])), (qn3, .inl (cA10, 6016, .inl (f11))), (q12, .inr (3, [.ref q14, .int 0])), (q15, .inr (4, [.int 1])), (q17, .inr (5, [.ref q1, .ref qa19, .int 0]))] := hD
  refine lv_aload_n hx hb d_Leastcode_init_52 rfl (lv_at hl 0 rfl) ?_
  refine lv_bipush (v := 8) hx hb d_Leastcode_init_53 (by decide) ?_
  refine va_newq (D := (dC, dI)) (N' := 8) hx hb hown (hts (.classLink "Leastcode" 39 "Leastcode$Code") (List.mem_of_getElem? (i := 156) rfl)) hE9 hK hP hD hS hA (by decide) (by decide) (Nat.le_of_ble_eq_true rfl) (Nat.le_of_ble_eq_true rfl) (Nat.le_of_ble_eq_true rfl) d_Leastcode_init_55 (fun q20 cA21 H hK hP hD hS => ?_)
  have hP : va_P (dC, dI) classes [(h0, .inr (0, [.ref q1, .ref q12, .ref q15, .ref q17, .null, .int 0, .null, .int 0, .null, .int 0, .null, .null, .null, .int 0, .null, .null, .null])), (q1, .inr (1, [.ref qn3, .ref qa4, .ref qb5, .ref qc6, .ref qd7, .ref qe8, .ref qf9])), (qn3, .inl (cA10, 6016, .inl (f11))), (q12, .inr (3, [.ref q14, .int 0])), (q15, .inr (4, [.int 1])), (q17, .inr (5, [.ref q1, .ref qa19, .int 0])), (q20, .inl (cA21, 8, .inr (.inr (.inr (.inr (fun _ => none))))))] H := hP
  have hK : va_K (dC, dI) classes [(cA10, .int), (cA21, .object "Leastcode$Code")] s := hK
  have hD : va_D A [(h0, .inr (0, [.ref q1, .ref q12, .ref q15, .ref q17, .null, .int 0, .null, .int 0, .null, .int 0, .null, .null, .null, .int 0, .null, .null, .null])), (q1, .inr (1, [.ref qn3, .ref qa4, .ref qb5, .ref qc6, .ref qd7, .ref qe8, .ref qf9])), (qn3, .inl (cA10, 6016, .inl (f11))), (q12, .inr (3, [.ref q14, .int 0])), (q15, .inr (4, [.int 1])), (q17, .inr (5, [.ref q1, .ref qa19, .int 0])), (q20, .inl (cA21, 8, .inr (.inr (.inr (.inr (fun _ => none))))))] := hD
  refine W.widen (k := 15) (n := 8508) (by omega) (by omega) ?_
  refine va_putF (D := (dC, dI)) (ci := 0) (v := .ref q20) (ty := .array (.object "Leastcode$Code")) (C := R_LC) (T := T_LC) (N := 17) hx hb hts in_Leastcode_init_LC t_LC t_LC_ok n_LC hown hK hP hD hS 0 rfl rfl 4 (by decide) (hts (.fieldLink "Leastcode" 41 "Leastcode" "programs" "[LLeastcode$Code;") (List.mem_of_getElem? (i := 157) rfl)) (fun _ h9 => h9) rfl hin rfl (by decide +kernel) rfl rfl (Nat.le_of_ble_eq_true rfl) d_Leastcode_init_58 (fun H locs hP hD hS => ?_)
  have hP : va_P (dC, dI) classes [(h0, .inr (0, [.ref q1, .ref q12, .ref q15, .ref q17, .ref q20, .int 0, .null, .int 0, .null, .int 0, .null, .null, .null, .int 0, .null, .null, .null])), (q1, .inr (1, [.ref qn3, .ref qa4, .ref qb5, .ref qc6, .ref qd7, .ref qe8, .ref qf9])), (qn3, .inl (cA10, 6016, .inl (f11))), (q12, .inr (3, [.ref q14, .int 0])), (q15, .inr (4, [.int 1])), (q17, .inr (5, [.ref q1, .ref qa19, .int 0])), (q20, .inl (cA21, 8, .inr (.inr (.inr (.inr (fun _ => none))))))] H := hP
  have hD : va_D A [(h0, .inr (0, [.ref q1, .ref q12, .ref q15, .ref q17, .ref q20, .int 0, .null, .int 0, .null, .int 0, .null, .null, .null, .int 0, .null, .null, .null])), (q1, .inr (1, [.ref qn3, .ref qa4, .ref qb5, .ref qc6, .ref qd7, .ref qe8, .ref qf9])), (qn3, .inl (cA10, 6016, .inl (f11))), (q12, .inr (3, [.ref q14, .int 0])), (q15, .inr (4, [.int 1])), (q17, .inr (5, [.ref q1, .ref qa19, .int 0])), (q20, .inl (cA21, 8, .inr (.inr (.inr (.inr (fun _ => none))))))] := hD
  refine lv_aload_n hx hb d_Leastcode_init_61 rfl (lv_at hl 0 rfl) ?_
  refine lv_bipush (v := 6) hx hb d_Leastcode_init_62 (by decide) ?_
  refine va_newq (D := (dC, dI)) (N' := 6) hx hb hown (hts (.classLink "Leastcode" 45 "Leastcode$Goal") (List.mem_of_getElem? (i := 158) rfl)) hE10 hK hP hD hS hA (by decide) (by decide) (Nat.le_of_ble_eq_true rfl) (Nat.le_of_ble_eq_true rfl) (Nat.le_of_ble_eq_true rfl) d_Leastcode_init_64 (fun q22 cA23 H hK hP hD hS => ?_)
  have hP : va_P (dC, dI) classes [(h0, .inr (0, [.ref q1, .ref q12, .ref q15, .ref q17, .ref q20, .int 0, .null, .int 0, .null, .int 0, .null, .null, .null, .int 0, .null, .null, .null])), (q1, .inr (1, [.ref qn3, .ref qa4, .ref qb5, .ref qc6, .ref qd7, .ref qe8, .ref qf9])), (qn3, .inl (cA10, 6016, .inl (f11))), (q12, .inr (3, [.ref q14, .int 0])), (q15, .inr (4, [.int 1])), (q17, .inr (5, [.ref q1, .ref qa19, .int 0])), (q20, .inl (cA21, 8, .inr (.inr (.inr (.inr (fun _ => none)))))), (q22, .inl (cA23, 6, .inr (.inr (.inr (.inr (fun _ => none))))))] H := hP
  have hK : va_K (dC, dI) classes [(cA10, .int), (cA21, .object "Leastcode$Code"), (cA23, .object "Leastcode$Goal")] s := hK
  have hD : va_D A [(h0, .inr (0, [.ref q1, .ref q12, .ref q15, .ref q17, .ref q20, .int 0, .null, .int 0, .null, .int 0, .null, .null, .null, .int 0, .null, .null, .null])), (q1, .inr (1, [.ref qn3, .ref qa4, .ref qb5, .ref qc6, .ref qd7, .ref qe8, .ref qf9])), (qn3, .inl (cA10, 6016, .inl (f11))), (q12, .inr (3, [.ref q14, .int 0])), (q15, .inr (4, [.int 1])), (q17, .inr (5, [.ref q1, .ref qa19, .int 0])), (q20, .inl (cA21, 8, .inr (.inr (.inr (.inr (fun _ => none)))))), (q22, .inl (cA23, 6, .inr (.inr (.inr (.inr (fun _ => none))))))] := hD
  refine W.widen (k := 16) (n := 8514) (by omega) (by omega) ?_
  refine va_putF (D := (dC, dI)) (ci := 0) (v := .ref q22) (ty := .array (.object "Leastcode$Goal")) (C := R_LC) (T := T_LC) (N := 17) hx hb hts in_Leastcode_init_LC t_LC t_LC_ok n_LC hown hK hP hD hS 0 rfl rfl 6 (by decide) (hts (.fieldLink "Leastcode" 47 "Leastcode" "goals" "[LLeastcode$Goal;") (List.mem_of_getElem? (i := 159) rfl)) (fun _ h9 => h9) rfl hin rfl (by decide +kernel) rfl rfl (Nat.le_of_ble_eq_true rfl) d_Leastcode_init_67 (fun H locs hP hD hS => ?_)
  have hP : va_P (dC, dI) classes [(h0, .inr (0, [.ref q1, .ref q12, .ref q15, .ref q17, .ref q20, .int 0, .ref q22, .int 0, .null, .int 0, .null, .null, .null, .int 0, .null, .null, .null])), (q1, .inr (1, [.ref qn3, .ref qa4, .ref qb5, .ref qc6, .ref qd7, .ref qe8, .ref qf9])), (qn3, .inl (cA10, 6016, .inl (f11))), (q12, .inr (3, [.ref q14, .int 0])), (q15, .inr (4, [.int 1])), (q17, .inr (5, [.ref q1, .ref qa19, .int 0])), (q20, .inl (cA21, 8, .inr (.inr (.inr (.inr (fun _ => none)))))), (q22, .inl (cA23, 6, .inr (.inr (.inr (.inr (fun _ => none))))))] H := hP
  have hD : va_D A [(h0, .inr (0, [.ref q1, .ref q12, .ref q15, .ref q17, .ref q20, .int 0, .ref q22, .int 0, .null, .int 0, .null, .null, .null, .int 0, .null, .null, .null])), (q1, .inr (1, [.ref qn3, .ref qa4, .ref qb5, .ref qc6, .ref qd7, .ref qe8, .ref qf9])), (qn3, .inl (cA10, 6016, .inl (f11))), (q12, .inr (3, [.ref q14, .int 0])), (q15, .inr (4, [.int 1])), (q17, .inr (5, [.ref q1, .ref qa19, .int 0])), (q20, .inl (cA21, 8, .inr (.inr (.inr (.inr (fun _ => none)))))), (q22, .inl (cA23, 6, .inr (.inr (.inr (.inr (fun _ => none))))))] := hD
  refine lv_aload_n hx hb d_Leastcode_init_70 rfl (lv_at hl 0 rfl) ?_
  refine lv_bipush (v := 8) hx hb d_Leastcode_init_71 (by decide) ?_
  refine va_newq (D := (dC, dI)) (N' := 8) hx hb hown (hts (.classLink "Leastcode" 51 "Leastcode$Rule") (List.mem_of_getElem? (i := 160) rfl)) hE11 hK hP hD hS hA (by decide) (by decide) (Nat.le_of_ble_eq_true rfl) (Nat.le_of_ble_eq_true rfl) (Nat.le_of_ble_eq_true rfl) d_Leastcode_init_73 (fun q24 cA25 H hK hP hD hS => ?_)
  have hP : va_P (dC, dI) classes [(h0, .inr (0, [.ref q1, .ref q12, .ref q15, .ref q17, .ref q20, .int 0, .ref q22, .int 0, .null, .int 0, .null, .null, .null, .int 0, .null, .null, .null])), (q1, .inr (1, [.ref qn3, .ref qa4, .ref qb5, .ref qc6, .ref qd7, .ref qe8, .ref qf9])), (qn3, .inl (cA10, 6016, .inl (f11))), (q12, .inr (3, [.ref q14, .int 0])), (q15, .inr (4, [.int 1])), (q17, .inr (5, [.ref q1, .ref qa19, .int 0])), (q20, .inl (cA21, 8, .inr (.inr (.inr (.inr (fun _ => none)))))), (q22, .inl (cA23, 6, .inr (.inr (.inr (.inr (fun _ => none)))))), (q24, .inl (cA25, 8, .inr (.inr (.inr (.inr (fun _ => none))))))] H := hP
  have hK : va_K (dC, dI) classes [(cA10, .int), (cA21, .object "Leastcode$Code"), (cA23, .object "Leastcode$Goal"), (cA25, .object "Leastcode$Rule")] s := hK
  have hD : va_D A [(h0, .inr (0, [.ref q1, .ref q12, .ref q15, .ref q17, .ref q20, .int 0, .ref q22, .int 0, .null, .int 0, .null, .null, .null, .int 0, .null, .null, .null])), (q1, .inr (1, [.ref qn3, .ref qa4, .ref qb5, .ref qc6, .ref qd7, .ref qe8, .ref qf9])), (qn3, .inl (cA10, 6016, .inl (f11))), (q12, .inr (3, [.ref q14, .int 0])), (q15, .inr (4, [.int 1])), (q17, .inr (5, [.ref q1, .ref qa19, .int 0])), (q20, .inl (cA21, 8, .inr (.inr (.inr (.inr (fun _ => none)))))), (q22, .inl (cA23, 6, .inr (.inr (.inr (.inr (fun _ => none)))))), (q24, .inl (cA25, 8, .inr (.inr (.inr (.inr (fun _ => none))))))] := hD
  refine W.widen (k := 17) (n := 8522) (by omega) (by omega) ?_
  refine va_putF (D := (dC, dI)) (ci := 0) (v := .ref q24) (ty := .array (.object "Leastcode$Rule")) (C := R_LC) (T := T_LC) (N := 17) hx hb hts in_Leastcode_init_LC t_LC t_LC_ok n_LC hown hK hP hD hS 0 rfl rfl 8 (by decide) (hts (.fieldLink "Leastcode" 53 "Leastcode" "rules" "[LLeastcode$Rule;") (List.mem_of_getElem? (i := 161) rfl)) (fun _ h9 => h9) rfl hin rfl (by decide +kernel) rfl rfl (Nat.le_of_ble_eq_true rfl) d_Leastcode_init_76 (fun H locs hP hD hS => ?_)
  have hP : va_P (dC, dI) classes [(h0, .inr (0, [.ref q1, .ref q12, .ref q15, .ref q17, .ref q20, .int 0, .ref q22, .int 0, .ref q24, .int 0, .null, .null, .null, .int 0, .null, .null, .null])), (q1, .inr (1, [.ref qn3, .ref qa4, .ref qb5, .ref qc6, .ref qd7, .ref qe8, .ref qf9])), (qn3, .inl (cA10, 6016, .inl (f11))), (q12, .inr (3, [.ref q14, .int 0])), (q15, .inr (4, [.int 1])), (q17, .inr (5, [.ref q1, .ref qa19, .int 0])), (q20, .inl (cA21, 8, .inr (.inr (.inr (.inr (fun _ => none)))))), (q22, .inl (cA23, 6, .inr (.inr (.inr (.inr (fun _ => none)))))), (q24, .inl (cA25, 8, .inr (.inr (.inr (.inr (fun _ => none))))))] H := hP
  have hD : va_D A [(h0, .inr (0, [.ref q1, .ref q12, .ref q15, .ref q17, .ref q20, .int 0, .ref q22, .int 0, .ref q24, .int 0, .null, .null, .null, .int 0, .null, .null, .null])), (q1, .inr (1, [.ref qn3, .ref qa4, .ref qb5, .ref qc6, .ref qd7, .ref qe8, .ref qf9])), (qn3, .inl (cA10, 6016, .inl (f11))), (q12, .inr (3, [.ref q14, .int 0])), (q15, .inr (4, [.int 1])), (q17, .inr (5, [.ref q1, .ref qa19, .int 0])), (q20, .inl (cA21, 8, .inr (.inr (.inr (.inr (fun _ => none)))))), (q22, .inl (cA23, 6, .inr (.inr (.inr (.inr (fun _ => none)))))), (q24, .inl (cA25, 8, .inr (.inr (.inr (.inr (fun _ => none))))))] := hD
  refine lv_aload_n hx hb d_Leastcode_init_79 rfl (lv_at hl 0 rfl) ?_
  refine lv_sipush (v := 128) hx hb d_Leastcode_init_80 (by decide) ?_
  refine va_newa (D := (dC, dI)) (atype := .int) (a0 := (128, .inl (fun _ => 0))) (ty := .int) (N' := 128) hx hb (hts (.arrayClass .int) (List.mem_of_getElem? (i := 16) rfl)) rfl hK hP hD hS hA (fun cA => rfl) (by decide) (by decide) (Nat.le_of_ble_eq_true rfl) (Nat.le_of_ble_eq_true rfl) (Nat.le_of_ble_eq_true rfl) d_Leastcode_init_83 (fun q26 cA27 H hK hP hD hS => ?_)
  have hP : va_P (dC, dI) classes [(h0, .inr (0, [.ref q1, .ref q12, .ref q15, .ref q17, .ref q20, .int 0, .ref q22, .int 0, .ref q24, .int 0, .null, .null, .null, .int 0, .null, .null, .null])), (q1, .inr (1, [.ref qn3, .ref qa4, .ref qb5, .ref qc6, .ref qd7, .ref qe8, .ref qf9])), (qn3, .inl (cA10, 6016, .inl (f11))), (q12, .inr (3, [.ref q14, .int 0])), (q15, .inr (4, [.int 1])), (q17, .inr (5, [.ref q1, .ref qa19, .int 0])), (q20, .inl (cA21, 8, .inr (.inr (.inr (.inr (fun _ => none)))))), (q22, .inl (cA23, 6, .inr (.inr (.inr (.inr (fun _ => none)))))), (q24, .inl (cA25, 8, .inr (.inr (.inr (.inr (fun _ => none)))))), (q26, .inl (cA27, 128, .inl (fun _ => 0)))] H := hP
  have hK : va_K (dC, dI) classes [(cA10, .int), (cA21, .object "Leastcode$Code"), (cA23, .object "Leastcode$Goal"), (cA25, .object "Leastcode$Rule"), (cA27, .int)] s := hK
  have hD : va_D A [(h0, .inr (0, [.ref q1, .ref q12, .ref q15, .ref q17, .ref q20, .int 0, .ref q22, .int 0, .ref q24, .int 0, .null, .null, .null, .int 0, .null, .null, .null])), (q1, .inr (1, [.ref qn3, .ref qa4, .ref qb5, .ref qc6, .ref qd7, .ref qe8, .ref qf9])), (qn3, .inl (cA10, 6016, .inl (f11))), (q12, .inr (3, [.ref q14, .int 0])), (q15, .inr (4, [.int 1])), (q17, .inr (5, [.ref q1, .ref qa19, .int 0])), (q20, .inl (cA21, 8, .inr (.inr (.inr (.inr (fun _ => none)))))), (q22, .inl (cA23, 6, .inr (.inr (.inr (.inr (fun _ => none)))))), (q24, .inl (cA25, 8, .inr (.inr (.inr (.inr (fun _ => none)))))), (q26, .inl (cA27, 128, .inl (fun _ => 0)))] := hD
  refine W.widen (k := 18) (n := 8650) (by omega) (by omega) ?_
  refine va_putF (D := (dC, dI)) (ci := 0) (v := .ref q26) (ty := .array .int) (C := R_LC) (T := T_LC) (N := 17) hx hb hts in_Leastcode_init_LC t_LC t_LC_ok n_LC hown hK hP hD hS 0 rfl rfl 10 (by decide) (hts (.fieldLink "Leastcode" 57 "Leastcode" "killed" "[I") (List.mem_of_getElem? (i := 162) rfl)) (fun _ h9 => h9) rfl hin rfl (by decide +kernel) rfl rfl (Nat.le_of_ble_eq_true rfl) d_Leastcode_init_85 (fun H locs hP hD hS => ?_)
  have hP : va_P (dC, dI) classes [(h0, .inr (0, [.ref q1, .ref q12, .ref q15, .ref q17, .ref q20, .int 0, .ref q22, .int 0, .ref q24, .int 0, .ref q26, .null, .null, .int 0, .null, .null, .null])), (q1, .inr (1, [.ref qn3, .ref qa4, .ref qb5, .ref qc6, .ref qd7, .ref qe8, .ref qf9])), (qn3, .inl (cA10, 6016, .inl (f11))), (q12, .inr (3, [.ref q14, .int 0])), (q15, .inr (4, [.int 1])), (q17, .inr (5, [.ref q1, .ref qa19, .int 0])), (q20, .inl (cA21, 8, .inr (.inr (.inr (.inr (fun _ => none)))))), (q22, .inl (cA23, 6, .inr (.inr (.inr (.inr (fun _ => none)))))), (q24, .inl (cA25, 8, .inr (.inr (.inr (.inr (fun _ => none)))))), (q26, .inl (cA27, 128, .inl (fun _ => 0)))] H := hP
  have hD : va_D A [(h0, .inr (0, [.ref q1, .ref q12, .ref q15, .ref q17, .ref q20, .int 0, .ref q22, .int 0, .ref q24, .int 0, .ref q26, .null, .null, .int 0, .null, .null, .null])), (q1, .inr (1, [.ref qn3, .ref qa4, .ref qb5, .ref qc6, .ref qd7, .ref qe8, .ref qf9])), (qn3, .inl (cA10, 6016, .inl (f11))), (q12, .inr (3, [.ref q14, .int 0])), (q15, .inr (4, [.int 1])), (q17, .inr (5, [.ref q1, .ref qa19, .int 0])), (q20, .inl (cA21, 8, .inr (.inr (.inr (.inr (fun _ => none)))))), (q22, .inl (cA23, 6, .inr (.inr (.inr (.inr (fun _ => none)))))), (q24, .inl (cA25, 8, .inr (.inr (.inr (.inr (fun _ => none)))))), (q26, .inl (cA27, 128, .inl (fun _ => 0)))] := hD
  refine lv_aload_n hx hb d_Leastcode_init_88 rfl (lv_at hl 0 rfl) ?_
  refine lv_iconst (v := 3) hx hb d_Leastcode_init_89 (by decide) ?_
  refine va_newa (D := (dC, dI)) (atype := .int) (a0 := (3, .inl (fun _ => 0))) (ty := .int) (N' := 3) hx hb (hts (.arrayClass .int) (List.mem_of_getElem? (i := 16) rfl)) rfl hK hP hD hS hA (fun cA => rfl) (by decide) (by decide) (Nat.le_of_ble_eq_true rfl) (Nat.le_of_ble_eq_true rfl) (Nat.le_of_ble_eq_true rfl) d_Leastcode_init_90 (fun q28 cA29 H hK hP hD hS => ?_)
  have hP : va_P (dC, dI) classes [(h0, .inr (0, [.ref q1, .ref q12, .ref q15, .ref q17, .ref q20, .int 0, .ref q22, .int 0, .ref q24, .int 0, .ref q26, .null, .null, .int 0, .null, .null, .null])), (q1, .inr (1, [.ref qn3, .ref qa4, .ref qb5, .ref qc6, .ref qd7, .ref qe8, .ref qf9])), (qn3, .inl (cA10, 6016, .inl (f11))), (q12, .inr (3, [.ref q14, .int 0])), (q15, .inr (4, [.int 1])), (q17, .inr (5, [.ref q1, .ref qa19, .int 0])), (q20, .inl (cA21, 8, .inr (.inr (.inr (.inr (fun _ => none)))))), (q22, .inl (cA23, 6, .inr (.inr (.inr (.inr (fun _ => none)))))), (q24, .inl (cA25, 8, .inr (.inr (.inr (.inr (fun _ => none)))))), (q26, .inl (cA27, 128, .inl (fun _ => 0))), (q28, .inl (cA29, 3, .inl (fun _ => 0)))] H := hP
  have hK : va_K (dC, dI) classes [(cA10, .int), (cA21, .object "Leastcode$Code"), (cA23, .object "Leastcode$Goal"), (cA25, .object "Leastcode$Rule"), (cA27, .int), (cA29, .int)] s := hK
  have hD : va_D A [(h0, .inr (0, [.ref q1, .ref q12, .ref q15, .ref q17, .ref q20, .int 0, .ref q22, .int 0, .ref q24, .int 0, .ref q26, .null, .null, .int 0, .null, .null, .null])), (q1, .inr (1, [.ref qn3, .ref qa4, .ref qb5, .ref qc6, .ref qd7, .ref qe8, .ref qf9])), (qn3, .inl (cA10, 6016, .inl (f11))), (q12, .inr (3, [.ref q14, .int 0])), (q15, .inr (4, [.int 1])), (q17, .inr (5, [.ref q1, .ref qa19, .int 0])), (q20, .inl (cA21, 8, .inr (.inr (.inr (.inr (fun _ => none)))))), (q22, .inl (cA23, 6, .inr (.inr (.inr (.inr (fun _ => none)))))), (q24, .inl (cA25, 8, .inr (.inr (.inr (.inr (fun _ => none)))))), (q26, .inl (cA27, 128, .inl (fun _ => 0))), (q28, .inl (cA29, 3, .inl (fun _ => 0)))] := hD
  refine W.widen (k := 19) (n := 8653) (by omega) (by omega) ?_
  refine va_putF (D := (dC, dI)) (ci := 0) (v := .ref q28) (ty := .array .int) (C := R_LC) (T := T_LC) (N := 17) hx hb hts in_Leastcode_init_LC t_LC t_LC_ok n_LC hown hK hP hD hS 0 rfl rfl 11 (by decide) (hts (.fieldLink "Leastcode" 61 "Leastcode" "unlikeUpTo" "[I") (List.mem_of_getElem? (i := 163) rfl)) (fun _ h9 => h9) rfl hin rfl (by decide +kernel) rfl rfl (Nat.le_of_ble_eq_true rfl) d_Leastcode_init_92 (fun H locs hP hD hS => ?_)
  have hP : va_P (dC, dI) classes [(h0, .inr (0, [.ref q1, .ref q12, .ref q15, .ref q17, .ref q20, .int 0, .ref q22, .int 0, .ref q24, .int 0, .ref q26, .ref q28, .null, .int 0, .null, .null, .null])), (q1, .inr (1, [.ref qn3, .ref qa4, .ref qb5, .ref qc6, .ref qd7, .ref qe8, .ref qf9])), (qn3, .inl (cA10, 6016, .inl (f11))), (q12, .inr (3, [.ref q14, .int 0])), (q15, .inr (4, [.int 1])), (q17, .inr (5, [.ref q1, .ref qa19, .int 0])), (q20, .inl (cA21, 8, .inr (.inr (.inr (.inr (fun _ => none)))))), (q22, .inl (cA23, 6, .inr (.inr (.inr (.inr (fun _ => none)))))), (q24, .inl (cA25, 8, .inr (.inr (.inr (.inr (fun _ => none)))))), (q26, .inl (cA27, 128, .inl (fun _ => 0))), (q28, .inl (cA29, 3, .inl (fun _ => 0)))] H := hP
  have hD : va_D A [(h0, .inr (0, [.ref q1, .ref q12, .ref q15, .ref q17, .ref q20, .int 0, .ref q22, .int 0, .ref q24, .int 0, .ref q26, .ref q28, .null, .int 0, .null, .null, .null])), (q1, .inr (1, [.ref qn3, .ref qa4, .ref qb5, .ref qc6, .ref qd7, .ref qe8, .ref qf9])), (qn3, .inl (cA10, 6016, .inl (f11))), (q12, .inr (3, [.ref q14, .int 0])), (q15, .inr (4, [.int 1])), (q17, .inr (5, [.ref q1, .ref qa19, .int 0])), (q20, .inl (cA21, 8, .inr (.inr (.inr (.inr (fun _ => none)))))), (q22, .inl (cA23, 6, .inr (.inr (.inr (.inr (fun _ => none)))))), (q24, .inl (cA25, 8, .inr (.inr (.inr (.inr (fun _ => none)))))), (q26, .inl (cA27, 128, .inl (fun _ => 0))), (q28, .inl (cA29, 3, .inl (fun _ => 0)))] := hD
  refine lv_aload_n hx hb d_Leastcode_init_95 rfl (lv_at hl 0 rfl) ?_
  refine va_new (D := (dC, dI)) (ci := 2) (fs := [.null, .int 0]) (C := R_CO) (T := T_CO) (N := 2) hx hb hts in_Leastcode_init_CO t_CO t_CO_ok hown (hts (.classLink "Leastcode" 39 "Leastcode$Code") (List.mem_of_getElem? (i := 156) rfl)) (hts (.instantiable "Leastcode$Code" 2) (List.mem_of_getElem? (i := 145) rfl)) (hts (.initialized "Leastcode$Code") (List.mem_of_getElem? (i := 146) rfl)) hK hP hD hS hA rfl (fun j hj => by rcases (show j = 0 ∨ j = 1 by omega) with rfl | rfl <;> rfl) (Nat.le_of_ble_eq_true rfl) (Nat.le_of_ble_eq_true rfl) d_Leastcode_init_96 (fun q30 H hP hD hS => ?_)
  have hP : va_P (dC, dI) classes [(h0, .inr (0, [.ref q1, .ref q12, .ref q15, .ref q17, .ref q20, .int 0, .ref q22, .int 0, .ref q24, .int 0, .ref q26, .ref q28, .null, .int 0, .null, .null, .null])), (q1, .inr (1, [.ref qn3, .ref qa4, .ref qb5, .ref qc6, .ref qd7, .ref qe8, .ref qf9])), (qn3, .inl (cA10, 6016, .inl (f11))), (q12, .inr (3, [.ref q14, .int 0])), (q15, .inr (4, [.int 1])), (q17, .inr (5, [.ref q1, .ref qa19, .int 0])), (q20, .inl (cA21, 8, .inr (.inr (.inr (.inr (fun _ => none)))))), (q22, .inl (cA23, 6, .inr (.inr (.inr (.inr (fun _ => none)))))), (q24, .inl (cA25, 8, .inr (.inr (.inr (.inr (fun _ => none)))))), (q26, .inl (cA27, 128, .inl (fun _ => 0))), (q28, .inl (cA29, 3, .inl (fun _ => 0))), (q30, .inr (2, [.null, .int 0]))] H := hP
  have hD : va_D A [(h0, .inr (0, [.ref q1, .ref q12, .ref q15, .ref q17, .ref q20, .int 0, .ref q22, .int 0, .ref q24, .int 0, .ref q26, .ref q28, .null, .int 0, .null, .null, .null])), (q1, .inr (1, [.ref qn3, .ref qa4, .ref qb5, .ref qc6, .ref qd7, .ref qe8, .ref qf9])), (qn3, .inl (cA10, 6016, .inl (f11))), (q12, .inr (3, [.ref q14, .int 0])), (q15, .inr (4, [.int 1])), (q17, .inr (5, [.ref q1, .ref qa19, .int 0])), (q20, .inl (cA21, 8, .inr (.inr (.inr (.inr (fun _ => none)))))), (q22, .inl (cA23, 6, .inr (.inr (.inr (.inr (fun _ => none)))))), (q24, .inl (cA25, 8, .inr (.inr (.inr (.inr (fun _ => none)))))), (q26, .inl (cA27, 128, .inl (fun _ => 0))), (q28, .inl (cA29, 3, .inl (fun _ => 0))), (q30, .inr (2, [.null, .int 0]))] := hD
  refine W.widen (k := 20) (n := 8655) (by omega) (by omega) ?_
  refine lv_dup hx hb d_Leastcode_init_99 rfl ?_
  have hPc : va_P (dC, dI) classes [(q30, .inr (2, [.null, .int 0]))] _ := hP.sub (ws' := [(q30, .inr (2, [.null, .int 0]))]) [11] rfl
  have hKc : va_K (dC, dI) classes [] s := hK.sub (tys' := []) [] rfl
  have hDc : va_D _ [(q30, .inr (2, [.null, .int 0]))] := hD.sub (ws' := [(q30, .inr (2, [.null, .int 0]))]) [11] (by decide) rfl
  have hFc := va_free (wc := [(q30, .inr (2, [.null, .int 0]))]) hD hS hA [11] rfl
  refine va_callv (va_runIN (As := []) (rest := [.ref q30, .ref h0]) ⟨hx, hb, hml, hown, hts⟩ (c_Code_init l dC dI q30 H.size) ⟨va_cnB 0 hts g_Leastcode_init_100 rfl rfl rfl hE12 (hts (.initialized "Leastcode$Code") (List.mem_of_getElem? (i := 146) rfl)) (by decide +kernel) ⟨Nat.le_of_ble_eq_true rfl, Nat.le_of_ble_eq_true rfl⟩, rfl, (hts (.instanceMethod ⟨"Leastcode$Code", "<init>", "()V"⟩) (List.mem_of_getElem? (i := 150) rfl))⟩ ⟨fun a U g mk z => by obtain ⟨z0, z1, zP, zK, zD⟩ := z; exact ⟨z0, z1, zP, va_K.moved (u := U) (U := U.calling g mk a) (Vm.Alike.refl U.vm) zK, zD⟩, fun U hU hW => ⟨rfl, by rw [hU], by rw [hU]; exact hPc, va_K.moved hW.alike hKc, hDc.weaken (fun _ _ _ _ => trivial)⟩⟩ rfl rfl hl.1 rfl (lv_room (Nat.le_of_ble_eq_true rfl)) d_Leastcode_init_100 ⟨(Nat.le_of_ble_eq_true rfl), (Nat.le_of_ble_eq_true rfl)⟩) hS (fun q _ h => hFc q h) hFc (fun u t H1 locs ht hvm hr31 hB hz1 hk1 hS => ?_)
  obtain ⟨q32, cA33, hP1, hK1, hD1⟩ := hB
  rw [ht] at hP1
  have hK1 := va_K.moved hvm.symm hK1
  obtain ⟨hP, hD⟩ := va_join (wr := [(h0, .inr (0, [.ref q1, .ref q12, .ref q15, .ref q17, .ref q20, .int 0, .ref q22, .int 0, .ref q24, .int 0, .ref q26, .ref q28, .null, .int 0, .null, .null, .null])), (q1, .inr (1, [.ref qn3, .ref qa4, .ref qb5, .ref qc6, .ref qd7, .ref qe8, .ref qf9])), (qn3, .inl (cA10, 6016, .inl (f11))), (q12, .inr (3, [.ref q14, .int 0])), (q15, .inr (4, [.int 1])), (q17, .inr (5, [.ref q1, .ref qa19, .int 0])), (q20, .inl (cA21, 8, .inr (.inr (.inr (.inr (fun _ => none)))))), (q22, .inl (cA23, 6, .inr (.inr (.inr (.inr (fun _ => none)))))), (q24, .inl (cA25, 8, .inr (.inr (.inr (.inr (fun _ => none)))))), (q26, .inl (cA27, 128, .inl (fun _ => 0))), (q28, .inl (cA29, 3, .inl (fun _ => 0)))]) (w1 := [(q30, .inr (2, [.ref q32, .int 0])), (q32, .inl (cA33, 8, .inl (fun _ => 0)))]) hP hD [11] [0, 1, 2, 3, 4, 5, 6, 7, 8, 9, 10] rfl rfl (by decide) (by decide) hk1 hFc hP1 hD1
  have hK := hK.app (hK1.sub (tys' := [(cA33, .int)]) [0] rfl)
  have hK : va_K (dC, dI) classes [(cA10, .int), (cA21, .object "Leastcode$Code"), (cA23, .object "Leastcode$Goal"), (cA25, .object "Leastcode$Rule"), (cA27, .int), (cA29, .int), (cA33, .int)] s := hK
  clear hPc hDc hKc hFc hP1 hD1 hK1 hk1
  generalize H1 = H at hP hS ⊢
  have hP : va_P (dC, dI) classes [(h0, .inr (0, [.ref q1, .ref q12, .ref q15, .ref q17, .ref q20, .int 0, .ref q22, .int 0, .ref q24, .int 0, .ref q26, .ref q28, .null, .int 0, .null, .null, .null])), (q1, .inr (1, [.ref qn3, .ref qa4, .ref qb5, .ref qc6, .ref qd7, .ref qe8, .ref qf9])), (qn3, .inl (cA10, 6016, .inl (f11))), (q12, .inr (3, [.ref q14, .int 0])), (q15, .inr (4, [.int 1])), (q17, .inr (5, [.ref q1, .ref qa19, .int 0])), (q20, .inl (cA21, 8, .inr (.inr (.inr (.inr (fun _ => none)))))), (q22, .inl (cA23, 6, .inr (.inr (.inr (.inr (fun _ => none)))))), (q24, .inl (cA25, 8, .inr (.inr (.inr (.inr (fun _ => none)))))), (q26, .inl (cA27, 128, .inl (fun _ => 0))), (q28, .inl (cA29, 3, .inl (fun _ => 0))), (q30, .inr (2, [.ref q32, .int 0])), (q32, .inl (cA33, 8, .inl (fun _ => 0)))] H := hP
  have hD : va_D A [(h0, .inr (0, [.ref q1, .ref q12, .ref q15, .ref q17, .ref q20, .int 0, .ref q22, .int 0, .ref q24, .int 0, .ref q26, .ref q28, .null, .int 0, .null, .null, .null])), (q1, .inr (1, [.ref qn3, .ref qa4, .ref qb5, .ref qc6, .ref qd7, .ref qe8, .ref qf9])), (qn3, .inl (cA10, 6016, .inl (f11))), (q12, .inr (3, [.ref q14, .int 0])), (q15, .inr (4, [.int 1])), (q17, .inr (5, [.ref q1, .ref qa19, .int 0])), (q20, .inl (cA21, 8, .inr (.inr (.inr (.inr (fun _ => none)))))), (q22, .inl (cA23, 6, .inr (.inr (.inr (.inr (fun _ => none)))))), (q24, .inl (cA25, 8, .inr (.inr (.inr (.inr (fun _ => none)))))), (q26, .inl (cA27, 128, .inl (fun _ => 0))), (q28, .inl (cA29, 3, .inl (fun _ => 0))), (q30, .inr (2, [.ref q32, .int 0])), (q32, .inl (cA33, 8, .inl (fun _ => 0)))] := hD
  refine W.widen (k := 21) (n := 8663) (by omega) (by omega) ?_
  refine va_putF (D := (dC, dI)) (ci := 0) (v := .ref q30) (ty := .object "Leastcode$Code") (C := R_LC) (T := T_LC) (N := 17) hx hb hts in_Leastcode_init_LC t_LC t_LC_ok n_LC hown hK hP hD hS 0 rfl rfl 12 (by decide) (hts (.fieldLink "Leastcode" 65 "Leastcode" "found" "LLeastcode$Code;") (List.mem_of_getElem? (i := 164) rfl)) (fun _ h9 => h9) rfl hin rfl (by decide +kernel) rfl rfl (Nat.le_of_ble_eq_true rfl) d_Leastcode_init_103 (fun H locs hP hD hS => ?_)
  have hP : va_P (dC, dI) classes [(h0, .inr (0, [.ref q1, .ref q12, .ref q15, .ref q17, .ref q20, .int 0, .ref q22, .int 0, .ref q24, .int 0, .ref q26, .ref q28, .ref q30, .int 0, .null, .null, .null])), (q1, .inr (1, [.ref qn3, .ref qa4, .ref qb5, .ref qc6, .ref qd7, .ref qe8, .ref qf9])), (qn3, .inl (cA10, 6016, .inl (f11))), (q12, .inr (3, [.ref q14, .int 0])), (q15, .inr (4, [.int 1])), (q17, .inr (5, [.ref q1, .ref qa19, .int 0])), (q20, .inl (cA21, 8, .inr (.inr (.inr (.inr (fun _ => none)))))), (q22, .inl (cA23, 6, .inr (.inr (.inr (.inr (fun _ => none)))))), (q24, .inl (cA25, 8, .inr (.inr (.inr (.inr (fun _ => none)))))), (q26, .inl (cA27, 128, .inl (fun _ => 0))), (q28, .inl (cA29, 3, .inl (fun _ => 0))), (q30, .inr (2, [.ref q32, .int 0])), (q32, .inl (cA33, 8, .inl (fun _ => 0)))] H := hP
  have hD : va_D A [(h0, .inr (0, [.ref q1, .ref q12, .ref q15, .ref q17, .ref q20, .int 0, .ref q22, .int 0, .ref q24, .int 0, .ref q26, .ref q28, .ref q30, .int 0, .null, .null, .null])), (q1, .inr (1, [.ref qn3, .ref qa4, .ref qb5, .ref qc6, .ref qd7, .ref qe8, .ref qf9])), (qn3, .inl (cA10, 6016, .inl (f11))), (q12, .inr (3, [.ref q14, .int 0])), (q15, .inr (4, [.int 1])), (q17, .inr (5, [.ref q1, .ref qa19, .int 0])), (q20, .inl (cA21, 8, .inr (.inr (.inr (.inr (fun _ => none)))))), (q22, .inl (cA23, 6, .inr (.inr (.inr (.inr (fun _ => none)))))), (q24, .inl (cA25, 8, .inr (.inr (.inr (.inr (fun _ => none)))))), (q26, .inl (cA27, 128, .inl (fun _ => 0))), (q28, .inl (cA29, 3, .inl (fun _ => 0))), (q30, .inr (2, [.ref q32, .int 0])), (q32, .inl (cA33, 8, .inl (fun _ => 0)))] := hD
  refine lv_aload_n hx hb d_Leastcode_init_106 rfl (lv_at hl 0 rfl) ?_
  refine va_new (D := (dC, dI)) (ci := 2) (fs := [.null, .int 0]) (C := R_CO) (T := T_CO) (N := 2) hx hb hts in_Leastcode_init_CO t_CO t_CO_ok hown (hts (.classLink "Leastcode" 39 "Leastcode$Code") (List.mem_of_getElem? (i := 156) rfl)) (hts (.instantiable "Leastcode$Code" 2) (List.mem_of_getElem? (i := 145) rfl)) (hts (.initialized "Leastcode$Code") (List.mem_of_getElem? (i := 146) rfl)) hK hP hD hS hA rfl (fun j hj => by rcases (show j = 0 ∨ j = 1 by omega) with rfl | rfl <;> rfl) (Nat.le_of_ble_eq_true rfl) (Nat.le_of_ble_eq_true rfl) d_Leastcode_init_107 (fun q34 H hP hD hS => ?_)
  have hP : va_P (dC, dI) classes [(h0, .inr (0, [.ref q1, .ref q12, .ref q15, .ref q17, .ref q20, .int 0, .ref q22, .int 0, .ref q24, .int 0, .ref q26, .ref q28, .ref q30, .int 0, .null, .null, .null])), (q1, .inr (1, [.ref qn3, .ref qa4, .ref qb5, .ref qc6, .ref qd7, .ref qe8, .ref qf9])), (qn3, .inl (cA10, 6016, .inl (f11))), (q12, .inr (3, [.ref q14, .int 0])), (q15, .inr (4, [.int 1])), (q17, .inr (5, [.ref q1, .ref qa19, .int 0])), (q20, .inl (cA21, 8, .inr (.inr (.inr (.inr (fun _ => none)))))), (q22, .inl (cA23, 6, .inr (.inr (.inr (.inr (fun _ => none)))))), (q24, .inl (cA25, 8, .inr (.inr (.inr (.inr (fun _ => none)))))), (q26, .inl (cA27, 128, .inl (fun _ => 0))), (q28, .inl (cA29, 3, .inl (fun _ => 0))), (q30, .inr (2, [.ref q32, .int 0])), (q32, .inl (cA33, 8, .inl (fun _ => 0))), (q34, .inr (2, [.null, .int 0]))] H := hP
  have hD : va_D A [(h0, .inr (0, [.ref q1, .ref q12, .ref q15, .ref q17, .ref q20, .int 0, .ref q22, .int 0, .ref q24, .int 0, .ref q26, .ref q28, .ref q30, .int 0, .null, .null, .null])), (q1, .inr (1, [.ref qn3, .ref qa4, .ref qb5, .ref qc6, .ref qd7, .ref qe8, .ref qf9])), (qn3, .inl (cA10, 6016, .inl (f11))), (q12, .inr (3, [.ref q14, .int 0])), (q15, .inr (4, [.int 1])), (q17, .inr (5, [.ref q1, .ref qa19, .int 0])), (q20, .inl (cA21, 8, .inr (.inr (.inr (.inr (fun _ => none)))))), (q22, .inl (cA23, 6, .inr (.inr (.inr (.inr (fun _ => none)))))), (q24, .inl (cA25, 8, .inr (.inr (.inr (.inr (fun _ => none)))))), (q26, .inl (cA27, 128, .inl (fun _ => 0))), (q28, .inl (cA29, 3, .inl (fun _ => 0))), (q30, .inr (2, [.ref q32, .int 0])), (q32, .inl (cA33, 8, .inl (fun _ => 0))), (q34, .inr (2, [.null, .int 0]))] := hD
  refine W.widen (k := 22) (n := 8665) (by omega) (by omega) ?_
  refine lv_dup hx hb d_Leastcode_init_110 rfl ?_
  have hPc : va_P (dC, dI) classes [(q34, .inr (2, [.null, .int 0]))] _ := hP.sub (ws' := [(q34, .inr (2, [.null, .int 0]))]) [13] rfl
  have hKc : va_K (dC, dI) classes [] s := hK.sub (tys' := []) [] rfl
  have hDc : va_D _ [(q34, .inr (2, [.null, .int 0]))] := hD.sub (ws' := [(q34, .inr (2, [.null, .int 0]))]) [13] (by decide) rfl
  have hFc := va_free (wc := [(q34, .inr (2, [.null, .int 0]))]) hD hS hA [13] rfl
  refine va_callv (va_runIN (As := []) (rest := [.ref q34, .ref h0]) ⟨hx, hb, hml, hown, hts⟩ (c_Code_init l dC dI q34 H.size) ⟨va_cnB 0 hts g_Leastcode_init_111 rfl rfl rfl hE12 (hts (.initialized "Leastcode$Code") (List.mem_of_getElem? (i := 146) rfl)) (by decide +kernel) ⟨Nat.le_of_ble_eq_true rfl, Nat.le_of_ble_eq_true rfl⟩, rfl, (hts (.instanceMethod ⟨"Leastcode$Code", "<init>", "()V"⟩) (List.mem_of_getElem? (i := 150) rfl))⟩ ⟨fun a U g mk z => by obtain ⟨z0, z1, zP, zK, zD⟩ := z; exact ⟨z0, z1, zP, va_K.moved (u := U) (U := U.calling g mk a) (Vm.Alike.refl U.vm) zK, zD⟩, fun U hU hW => ⟨rfl, by rw [hU], by rw [hU]; exact hPc, va_K.moved hW.alike hKc, hDc.weaken (fun _ _ _ _ => trivial)⟩⟩ rfl rfl hl.1 rfl (lv_room (Nat.le_of_ble_eq_true rfl)) d_Leastcode_init_111 ⟨(Nat.le_of_ble_eq_true rfl), (Nat.le_of_ble_eq_true rfl)⟩) hS (fun q _ h => hFc q h) hFc (fun u t H1 locs ht hvm hr35 hB hz1 hk1 hS => ?_)
  obtain ⟨q36, cA37, hP1, hK1, hD1⟩ := hB
  rw [ht] at hP1
  have hK1 := va_K.moved hvm.symm hK1
  obtain ⟨hP, hD⟩ := va_join (wr := [(h0, .inr (0, [.ref q1, .ref q12, .ref q15, .ref q17, .ref q20, .int 0, .ref q22, .int 0, .ref q24, .int 0, .ref q26, .ref q28, .ref q30, .int 0, .null, .null, .null])), (q1, .inr (1, [.ref qn3, .ref qa4, .ref qb5, .ref qc6, .ref qd7, .ref qe8, .ref qf9])), (qn3, .inl (cA10, 6016, .inl (f11))), (q12, .inr (3, [.ref q14, .int 0])), (q15, .inr (4, [.int 1])), (q17, .inr (5, [.ref q1, .ref qa19, .int 0])), (q20, .inl (cA21, 8, .inr (.inr (.inr (.inr (fun _ => none)))))), (q22, .inl (cA23, 6, .inr (.inr (.inr (.inr (fun _ => none)))))), (q24, .inl (cA25, 8, .inr (.inr (.inr (.inr (fun _ => none)))))), (q26, .inl (cA27, 128, .inl (fun _ => 0))), (q28, .inl (cA29, 3, .inl (fun _ => 0))), (q30, .inr (2, [.ref q32, .int 0])), (q32, .inl (cA33, 8, .inl (fun _ => 0)))]) (w1 := [(q34, .inr (2, [.ref q36, .int 0])), (q36, .inl (cA37, 8, .inl (fun _ => 0)))]) hP hD [13] [0, 1, 2, 3, 4, 5, 6, 7, 8, 9, 10, 11, 12] rfl rfl (by decide) (by decide) hk1 hFc hP1 hD1
  have hK := hK.app (hK1.sub (tys' := [(cA37, .int)]) [0] rfl)
  have hK : va_K (dC, dI) classes [(cA10, .int), (cA21, .object "Leastcode$Code"), (cA23, .object "Leastcode$Goal"), (cA25, .object "Leastcode$Rule"), (cA27, .int), (cA29, .int), (cA33, .int), (cA37, .int)] s := hK
  clear hPc hDc hKc hFc hP1 hD1 hK1 hk1
  generalize H1 = H at hP hS ⊢
  have hP : va_P (dC, dI) classes [(h0, .inr (0, [.ref q1, .ref q12, .ref q15, .ref q17, .ref q20, .int 0, .ref q22, .int 0, .ref q24, .int 0, .ref q26, .ref q28, .ref q30, .int 0, .null, .null, .null])), (q1, .inr (1, [.ref qn3, .ref qa4, .ref qb5, .ref qc6, .ref qd7, .ref qe8, .ref qf9])), (qn3, .inl (cA10, 6016, .inl (f11))), (q12, .inr (3, [.ref q14, .int 0])), (q15, .inr (4, [.int 1])), (q17, .inr (5, [.ref q1, .ref qa19, .int 0])), (q20, .inl (cA21, 8, .inr (.inr (.inr (.inr (fun _ => none)))))), (q22, .inl (cA23, 6, .inr (.inr (.inr (.inr (fun _ => none)))))), (q24, .inl (cA25, 8, .inr (.inr (.inr (.inr (fun _ => none)))))), (q26, .inl (cA27, 128, .inl (fun _ => 0))), (q28, .inl (cA29, 3, .inl (fun _ => 0))), (q30, .inr (2, [.ref q32, .int 0])), (q32, .inl (cA33, 8, .inl (fun _ => 0))), (q34, .inr (2, [.ref q36, .int 0])), (q36, .inl (cA37, 8, .inl (fun _ => 0)))] H := hP
  have hD : va_D A [(h0, .inr (0, [.ref q1, .ref q12, .ref q15, .ref q17, .ref q20, .int 0, .ref q22, .int 0, .ref q24, .int 0, .ref q26, .ref q28, .ref q30, .int 0, .null, .null, .null])), (q1, .inr (1, [.ref qn3, .ref qa4, .ref qb5, .ref qc6, .ref qd7, .ref qe8, .ref qf9])), (qn3, .inl (cA10, 6016, .inl (f11))), (q12, .inr (3, [.ref q14, .int 0])), (q15, .inr (4, [.int 1])), (q17, .inr (5, [.ref q1, .ref qa19, .int 0])), (q20, .inl (cA21, 8, .inr (.inr (.inr (.inr (fun _ => none)))))), (q22, .inl (cA23, 6, .inr (.inr (.inr (.inr (fun _ => none)))))), (q24, .inl (cA25, 8, .inr (.inr (.inr (.inr (fun _ => none)))))), (q26, .inl (cA27, 128, .inl (fun _ => 0))), (q28, .inl (cA29, 3, .inl (fun _ => 0))), (q30, .inr (2, [.ref q32, .int 0])), (q32, .inl (cA33, 8, .inl (fun _ => 0))), (q34, .inr (2, [.ref q36, .int 0])), (q36, .inl (cA37, 8, .inl (fun _ => 0)))] := hD
  refine W.widen (k := 23) (n := 8673) (by omega) (by omega) ?_
  refine va_putF (D := (dC, dI)) (ci := 0) (v := .ref q34) (ty := .object "Leastcode$Code") (C := R_LC) (T := T_LC) (N := 17) hx hb hts in_Leastcode_init_LC t_LC t_LC_ok n_LC hown hK hP hD hS 0 rfl rfl 14 (by decide) (hts (.fieldLink "Leastcode" 69 "Leastcode" "draft" "LLeastcode$Code;") (List.mem_of_getElem? (i := 165) rfl)) (fun _ h9 => h9) rfl hin rfl (by decide +kernel) rfl rfl (Nat.le_of_ble_eq_true rfl) d_Leastcode_init_114 (fun H locs hP hD hS => ?_)
  have hP : va_P (dC, dI) classes [(h0, .inr (0, [.ref q1, .ref q12, .ref q15, .ref q17, .ref q20, .int 0, .ref q22, .int 0, .ref q24, .int 0, .ref q26, .ref q28, .ref q30, .int 0, .ref q34, .null, .null])), (q1, .inr (1, [.ref qn3, .ref qa4, .ref qb5, .ref qc6, .ref qd7, .ref qe8, .ref qf9])), (qn3, .inl (cA10, 6016, .inl (f11))), (q12, .inr (3, [.ref q14, .int 0])), (q15, .inr (4, [.int 1])), (q17, .inr (5, [.ref q1, .ref qa19, .int 0])), (q20, .inl (cA21, 8, .inr (.inr (.inr (.inr (fun _ => none)))))), (q22, .inl (cA23, 6, .inr (.inr (.inr (.inr (fun _ => none)))))), (q24, .inl (cA25, 8, .inr (.inr (.inr (.inr (fun _ => none)))))), (q26, .inl (cA27, 128, .inl (fun _ => 0))), (q28, .inl (cA29, 3, .inl (fun _ => 0))), (q30, .inr (2, [.ref q32, .int 0])), (q32, .inl (cA33, 8, .inl (fun _ => 0))), (q34, .inr (2, [.ref q36, .int 0])), (q36, .inl (cA37, 8, .inl (fun _ => 0)))] H := hP
  have hD : va_D A [(h0, .inr (0, [.ref q1, .ref q12, .ref q15, .ref q17, .ref q20, .int 0, .ref q22, .int 0, .ref q24, .int 0, .ref q26, .ref q28, .ref q30, .int 0, .ref q34, .null, .null])), (q1, .inr (1, [.ref qn3, .ref qa4, .ref qb5, .ref qc6, .ref qd7, .ref qe8, .ref qf9])), (qn3, .inl (cA10, 6016, .inl (f11))), (q12, .inr (3, [.ref q14, .int 0])), (q15, .inr (4, [.int 1])), (q17, .inr (5, [.ref q1, .ref qa19, .int 0])), (q20, .inl (cA21, 8, .inr (.inr (.inr (.inr (fun _ => none)))))), (q22, .inl (cA23, 6, .inr (.inr (.inr (.inr (fun _ => none)))))), (q24, .inl (cA25, 8, .inr (.inr (.inr (.inr (fun _ => none)))))), (q26, .inl (cA27, 128, .inl (fun _ => 0))), (q28, .inl (cA29, 3, .inl (fun _ => 0))), (q30, .inr (2, [.ref q32, .int 0])), (q32, .inl (cA33, 8, .inl (fun _ => 0))), (q34, .inr (2, [.ref q36, .int 0])), (q36, .inl (cA37, 8, .inl (fun _ => 0)))] := hD
  refine lv_aload_n hx hb d_Leastcode_init_117 rfl (lv_at hl 0 rfl) ?_
  refine va_new (D := (dC, dI)) (ci := 2) (fs := [.null, .int 0]) (C := R_CO) (T := T_CO) (N := 2) hx hb hts in_Leastcode_init_CO t_CO t_CO_ok hown (hts (.classLink "Leastcode" 39 "Leastcode$Code") (List.mem_of_getElem? (i := 156) rfl)) (hts (.instantiable "Leastcode$Code" 2) (List.mem_of_getElem? (i := 145) rfl)) (hts (.initialized "Leastcode$Code") (List.mem_of_getElem? (i := 146) rfl)) hK hP hD hS hA rfl (fun j hj => by rcases (show j = 0 ∨ j = 1 by omega) with rfl | rfl <;> rfl) (Nat.le_of_ble_eq_true rfl) (Nat.le_of_ble_eq_true rfl) d_Leastcode_init_118 (fun q38 H hP hD hS => ?_)
  have hP : va_P (dC, dI) classes [(h0, .inr (0, [.ref q1, .ref q12, .ref q15, .ref q17, .ref q20, .int 0, .ref q22, .int 0, .ref q24, .int 0, .ref q26, .ref q28, .ref q30, .int 0, .ref q34, .null, .null])), (q1, .inr (1, [.ref qn3, .ref qa4, .ref qb5, .ref qc6, .ref qd7, .ref qe8, .ref qf9])), (qn3, .inl (cA10, 6016, .inl (f11))), (q12, .inr (3, [.ref q14, .int 0])), (q15, .inr (4, [.int 1])), (q17, .inr (5, [.ref q1, .ref qa19, .int 0])), (q20, .inl (cA21, 8, .inr (.inr (.inr (.inr (fun _ => none)))))), (q22, .inl (cA23, 6, .inr (.inr (.inr (.inr (fun _ => none)))))), (q24, .inl (cA25, 8, .inr (.inr (.inr (.inr (fun _ => none)))))), (q26, .inl (cA27, 128, .inl (fun _ => 0))), (q28, .inl (cA29, 3, .inl (fun _ => 0))), (q30, .inr (2, [.ref q32, .int 0])), (q32, .inl (cA33, 8, .inl (fun _ => 0))), (q34, .inr (2, [.ref q36, .int 0])), (q36, .inl (cA37, 8, .inl (fun _ => 0))), (q38, .inr (2, [.null, .int 0]))] H := hP
  have hD : va_D A [(h0, .inr (0, [.ref q1, .ref q12, .ref q15, .ref q17, .ref q20, .int 0, .ref q22, .int 0, .ref q24, .int 0, .ref q26, .ref q28, .ref q30, .int 0, .ref q34, .null, .null])), (q1, .inr (1, [.ref qn3, .ref qa4, .ref qb5, .ref qc6, .ref qd7, .ref qe8, .ref qf9])), (qn3, .inl (cA10, 6016, .inl (f11))), (q12, .inr (3, [.ref q14, .int 0])), (q15, .inr (4, [.int 1])), (q17, .inr (5, [.ref q1, .ref qa19, .int 0])), (q20, .inl (cA21, 8, .inr (.inr (.inr (.inr (fun _ => none)))))), (q22, .inl (cA23, 6, .inr (.inr (.inr (.inr (fun _ => none)))))), (q24, .inl (cA25, 8, .inr (.inr (.inr (.inr (fun _ => none)))))), (q26, .inl (cA27, 128, .inl (fun _ => 0))), (q28, .inl (cA29, 3, .inl (fun _ => 0))), (q30, .inr (2, [.ref q32, .int 0])), (q32, .inl (cA33, 8, .inl (fun _ => 0))), (q34, .inr (2, [.ref q36, .int 0])), (q36, .inl (cA37, 8, .inl (fun _ => 0))), (q38, .inr (2, [.null, .int 0]))] := hD
  refine W.widen (k := 24) (n := 8675) (by omega) (by omega) ?_
  refine lv_dup hx hb d_Leastcode_init_121 rfl ?_
  have hPc : va_P (dC, dI) classes [(q38, .inr (2, [.null, .int 0]))] _ := hP.sub (ws' := [(q38, .inr (2, [.null, .int 0]))]) [15] rfl
  have hKc : va_K (dC, dI) classes [] s := hK.sub (tys' := []) [] rfl
  have hDc : va_D _ [(q38, .inr (2, [.null, .int 0]))] := hD.sub (ws' := [(q38, .inr (2, [.null, .int 0]))]) [15] (by decide) rfl
  have hFc := va_free (wc := [(q38, .inr (2, [.null, .int 0]))]) hD hS hA [15] rfl
  refine va_callv (va_runIN (As := []) (rest := [.ref q38, .ref h0]) ⟨hx, hb, hml, hown, hts⟩ (c_Code_init l dC dI q38 H.size) ⟨va_cnB 0 hts g_Leastcode_init_122 rfl rfl rfl hE12 (hts (.initialized "Leastcode$Code") (List.mem_of_getElem? (i := 146) rfl)) (by decide +kernel) ⟨Nat.le_of_ble_eq_true rfl, Nat.le_of_ble_eq_true rfl⟩, rfl, (hts (.instanceMethod ⟨"Leastcode$Code", "<init>", "()V"⟩) (List.mem_of_getElem? (i := 150) rfl))⟩ ⟨fun a U g mk z => by obtain ⟨z0, z1, zP, zK, zD⟩ := z; exact ⟨z0, z1, zP, va_K.moved (u := U) (U := U.calling g mk a) (Vm.Alike.refl U.vm) zK, zD⟩, fun U hU hW => ⟨rfl, by rw [hU], by rw [hU]; exact hPc, va_K.moved hW.alike hKc, hDc.weaken (fun _ _ _ _ => trivial)⟩⟩ rfl rfl hl.1 rfl (lv_room (Nat.le_of_ble_eq_true rfl)) d_Leastcode_init_122 ⟨(Nat.le_of_ble_eq_true rfl), (Nat.le_of_ble_eq_true rfl)⟩) hS (fun q _ h => hFc q h) hFc (fun u t H1 locs ht hvm hr39 hB hz1 hk1 hS => ?_)
  obtain ⟨q40, cA41, hP1, hK1, hD1⟩ := hB
  rw [ht] at hP1
  have hK1 := va_K.moved hvm.symm hK1
  obtain ⟨hP, hD⟩ := va_join (wr := [(h0, .inr (0, [.ref q1, .ref q12, .ref q15, .ref q17, .ref q20, .int 0, .ref q22, .int 0, .ref q24, .int 0, .ref q26, .ref q28, .ref q30, .int 0, .ref q34, .null, .null])), (q1, .inr (1, [.ref qn3, .ref qa4, .ref qb5, .ref qc6, .ref qd7, .ref qe8, .ref qf9])), (qn3, .inl (cA10, 6016, .inl (f11))), (q12, .inr (3, [.ref q14, .int 0])), (q15, .inr (4, [.int 1])), (q17, .inr (5, [.ref q1, .ref qa19, .int 0])), (q20, .inl (cA21, 8, .inr (.inr (.inr (.inr (fun _ => none)))))), (q22, .inl (cA23, 6, .inr (.inr (.inr (.inr (fun _ => none)))))), (q24, .inl (cA25, 8, .inr (.inr (.inr (.inr (fun _ => none)))))), (q26, .inl (cA27, 128, .inl (fun _ => 0))), (q28, .inl (cA29, 3, .inl (fun _ => 0))), (q30, .inr (2, [.ref q32, .int 0])), (q32, .inl (cA33, 8, .inl (fun _ => 0))), (q34, .inr (2, [.ref q36, .int 0])), (q36, .inl (cA37, 8, .inl (fun _ => 0)))]) (w1 := [(q38, .inr (2, [.ref q40, .int 0])), (q40, .inl (cA41, 8, .inl (fun _ => 0)))]) hP hD [15] [0, 1, 2, 3, 4, 5, 6, 7, 8, 9, 10, 11, 12, 13, 14] rfl rfl (by decide) (by decide) hk1 hFc hP1 hD1
  have hK := hK.app (hK1.sub (tys' := [(cA41, .int)]) [0] rfl)
  have hK : va_K (dC, dI) classes [(cA10, .int), (cA21, .object "Leastcode$Code"), (cA23, .object "Leastcode$Goal"), (cA25, .object "Leastcode$Rule"), (cA27, .int), (cA29, .int), (cA33, .int), (cA37, .int), (cA41, .int)] s := hK
  clear hPc hDc hKc hFc hP1 hD1 hK1 hk1
  generalize H1 = H at hP hS ⊢
  have hP : va_P (dC, dI) classes [(h0, .inr (0, [.ref q1, .ref q12, .ref q15, .ref q17, .ref q20, .int 0, .ref q22, .int 0, .ref q24, .int 0, .ref q26, .ref q28, .ref q30, .int 0, .ref q34, .null, .null])), (q1, .inr (1, [.ref qn3, .ref qa4, .ref qb5, .ref qc6, .ref qd7, .ref qe8, .ref qf9])), (qn3, .inl (cA10, 6016, .inl (f11))), (q12, .inr (3, [.ref q14, .int 0])), (q15, .inr (4, [.int 1])), (q17, .inr (5, [.ref q1, .ref qa19, .int 0])), (q20, .inl (cA21, 8, .inr (.inr (.inr (.inr (fun _ => none)))))), (q22, .inl (cA23, 6, .inr (.inr (.inr (.inr (fun _ => none)))))), (q24, .inl (cA25, 8, .inr (.inr (.inr (.inr (fun _ => none)))))), (q26, .inl (cA27, 128, .inl (fun _ => 0))), (q28, .inl (cA29, 3, .inl (fun _ => 0))), (q30, .inr (2, [.ref q32, .int 0])), (q32, .inl (cA33, 8, .inl (fun _ => 0))), (q34, .inr (2, [.ref q36, .int 0])), (q36, .inl (cA37, 8, .inl (fun _ => 0))), (q38, .inr (2, [.ref q40, .int 0])), (q40, .inl (cA41, 8, .inl (fun _ => 0)))] H := hP
  have hD : va_D A [(h0, .inr (0, [.ref q1, .ref q12, .ref q15, .ref q17, .ref q20, .int 0, .ref q22, .int 0, .ref q24, .int 0, .ref q26, .ref q28, .ref q30, .int 0, .ref q34, .null, .null])), (q1, .inr (1, [.ref qn3, .ref qa4, .ref qb5, .ref qc6, .ref qd7, .ref qe8, .ref qf9])), (qn3, .inl (cA10, 6016, .inl (f11))), (q12, .inr (3, [.ref q14, .int 0])), (q15, .inr (4, [.int 1])), (q17, .inr (5, [.ref q1, .ref qa19, .int 0])), (q20, .inl (cA21, 8, .inr (.inr (.inr (.inr (fun _ => none)))))), (q22, .inl (cA23, 6, .inr (.inr (.inr (.inr (fun _ => none)))))), (q24, .inl (cA25, 8, .inr (.inr (.inr (.inr (fun _ => none)))))), (q26, .inl (cA27, 128, .inl (fun _ => 0))), (q28, .inl (cA29, 3, .inl (fun _ => 0))), (q30, .inr (2, [.ref q32, .int 0])), (q32, .inl (cA33, 8, .inl (fun _ => 0))), (q34, .inr (2, [.ref q36, .int 0])), (q36, .inl (cA37, 8, .inl (fun _ => 0))), (q38, .inr (2, [.ref q40, .int 0])), (q40, .inl (cA41, 8, .inl (fun _ => 0)))] := hD
  refine W.widen (k := 25) (n := 8683) (by omega) (by omega) ?_
  refine va_putF (D := (dC, dI)) (ci := 0) (v := .ref q38) (ty := .object "Leastcode$Code") (C := R_LC) (T := T_LC) (N := 17) hx hb hts in_Leastcode_init_LC t_LC t_LC_ok n_LC hown hK hP hD hS 0 rfl rfl 15 (by decide) (hts (.fieldLink "Leastcode" 72 "Leastcode" "shorter" "LLeastcode$Code;") (List.mem_of_getElem? (i := 166) rfl)) (fun _ h9 => h9) rfl hin rfl (by decide +kernel) rfl rfl (Nat.le_of_ble_eq_true rfl) d_Leastcode_init_125 (fun H locs hP hD hS => ?_)
  have hP : va_P (dC, dI) classes [(h0, .inr (0, [.ref q1, .ref q12, .ref q15, .ref q17, .ref q20, .int 0, .ref q22, .int 0, .ref q24, .int 0, .ref q26, .ref q28, .ref q30, .int 0, .ref q34, .ref q38, .null])), (q1, .inr (1, [.ref qn3, .ref qa4, .ref qb5, .ref qc6, .ref qd7, .ref qe8, .ref qf9])), (qn3, .inl (cA10, 6016, .inl (f11))), (q12, .inr (3, [.ref q14, .int 0])), (q15, .inr (4, [.int 1])), (q17, .inr (5, [.ref q1, .ref qa19, .int 0])), (q20, .inl (cA21, 8, .inr (.inr (.inr (.inr (fun _ => none)))))), (q22, .inl (cA23, 6, .inr (.inr (.inr (.inr (fun _ => none)))))), (q24, .inl (cA25, 8, .inr (.inr (.inr (.inr (fun _ => none)))))), (q26, .inl (cA27, 128, .inl (fun _ => 0))), (q28, .inl (cA29, 3, .inl (fun _ => 0))), (q30, .inr (2, [.ref q32, .int 0])), (q32, .inl (cA33, 8, .inl (fun _ => 0))), (q34, .inr (2, [.ref q36, .int 0])), (q36, .inl (cA37, 8, .inl (fun _ => 0))), (q38, .inr (2, [.ref q40, .int 0])), (q40, .inl (cA41, 8, .inl (fun _ => 0)))] H := hP
  have hD : va_D A [(h0, .inr (0, [.ref q1, .ref q12, .ref q15, .ref q17, .ref q20, .int 0, .ref q22, .int 0, .ref q24, .int 0, .ref q26, .ref q28, .ref q30, .int 0, .ref q34, .ref q38, .null])), (q1, .inr (1, [.ref qn3, .ref qa4, .ref qb5, .ref qc6, .ref qd7, .ref qe8, .ref qf9])), (qn3, .inl (cA10, 6016, .inl (f11))), (q12, .inr (3, [.ref q14, .int 0])), (q15, .inr (4, [.int 1])), (q17, .inr (5, [.ref q1, .ref qa19, .int 0])), (q20, .inl (cA21, 8, .inr (.inr (.inr (.inr (fun _ => none)))))), (q22, .inl (cA23, 6, .inr (.inr (.inr (.inr (fun _ => none)))))), (q24, .inl (cA25, 8, .inr (.inr (.inr (.inr (fun _ => none)))))), (q26, .inl (cA27, 128, .inl (fun _ => 0))), (q28, .inl (cA29, 3, .inl (fun _ => 0))), (q30, .inr (2, [.ref q32, .int 0])), (q32, .inl (cA33, 8, .inl (fun _ => 0))), (q34, .inr (2, [.ref q36, .int 0])), (q36, .inl (cA37, 8, .inl (fun _ => 0))), (q38, .inr (2, [.ref q40, .int 0])), (q40, .inl (cA41, 8, .inl (fun _ => 0)))] := hD
  refine lv_aload_n hx hb d_Leastcode_init_128 rfl (lv_at hl 0 rfl) ?_
  refine va_new (D := (dC, dI)) (ci := 6) (fs := [.null, .int 0]) (C := R_GO) (T := T_GO) (N := 2) hx hb hts in_Leastcode_init_GO t_GO t_GO_ok hown (hts (.classLink "Leastcode" 45 "Leastcode$Goal") (List.mem_of_getElem? (i := 158) rfl)) (hts (.instantiable "Leastcode$Goal" 2) (List.mem_of_getElem? (i := 169) rfl)) (hts (.initialized "Leastcode$Goal") (List.mem_of_getElem? (i := 170) rfl)) hK hP hD hS hA rfl (fun j hj => by rcases (show j = 0 ∨ j = 1 by omega) with rfl | rfl <;> rfl) (Nat.le_of_ble_eq_true rfl) (Nat.le_of_ble_eq_true rfl) d_Leastcode_init_129 (fun q42 H hP hD hS => ?_)
  have hP : va_P (dC, dI) classes [(h0, .inr (0, [.ref q1, .ref q12, .ref q15, .ref q17, .ref q20, .int 0, .ref q22, .int 0, .ref q24, .int 0, .ref q26, .ref q28, .ref q30, .int 0, .ref q34, .ref q38, .null])), (q1, .inr (1, [.ref qn3, .ref qa4, .ref qb5, .ref qc6, .ref qd7, .ref qe8, .ref qf9])), (qn3, .inl (cA10, 6016, .inl (f11))), (q12, .inr (3, [.ref q14, .int 0])), (q15, .inr (4, [.int 1])), (q17, .inr (5, [.ref q1, .ref qa19, .int 0])), (q20, .inl (cA21, 8, .inr (.inr (.inr (.inr (fun _ => none)))))), (q22, .inl (cA23, 6, .inr (.inr (.inr (.inr (fun _ => none)))))), (q24, .inl (cA25, 8, .inr (.inr (.inr (.inr (fun _ => none)))))), (q26, .inl (cA27, 128, .inl (fun _ => 0))), (q28, .inl (cA29, 3, .inl (fun _ => 0))), (q30, .inr (2, [.ref q32, .int 0])), (q32, .inl (cA33, 8, .inl (fun _ => 0))), (q34, .inr (2, [.ref q36, .int 0])), (q36, .inl (cA37, 8, .inl (fun _ => 0))), (q38, .inr (2, [.ref q40, .int 0])), (q40, .inl (cA41, 8, .inl (fun _ => 0))), (q42, .inr (6, [.null, .int 0]))] H := hP
  have hD : va_D A [(h0, .inr (0, [.ref q1, .ref q12, .ref q15, .ref q17, .ref q20, .int 0, .ref q22, .int 0, .ref q24, .int 0, .ref q26, .ref q28, .ref q30, .int 0, .ref q34, .ref q38, .null])), (q1, .inr (1, [.ref qn3, .ref qa4, .ref qb5, .ref qc6, .ref qd7, .ref qe8, .ref qf9])), (qn3, .inl (cA10, 6016, .inl (f11))), (q12, .inr (3, [.ref q14, .int 0])), (q15, .inr (4, [.int 1])), (q17, .inr (5, [.ref q1, .ref qa19, .int 0])), (q20, .inl (cA21, 8, .inr (.inr (.inr (.inr (fun _ => none)))))), (q22, .inl (cA23, 6, .inr (.inr (.inr (.inr (fun _ => none)))))), (q24, .inl (cA25, 8, .inr (.inr (.inr (.inr (fun _ => none)))))), (q26, .inl (cA27, 128, .inl (fun _ => 0))), (q28, .inl (cA29, 3, .inl (fun _ => 0))), (q30, .inr (2, [.ref q32, .int 0])), (q32, .inl (cA33, 8, .inl (fun _ => 0))), (q34, .inr (2, [.ref q36, .int 0])), (q36, .inl (cA37, 8, .inl (fun _ => 0))), (q38, .inr (2, [.ref q40, .int 0])), (q40, .inl (cA41, 8, .inl (fun _ => 0))), (q42, .inr (6, [.null, .int 0]))] := hD
  refine W.widen (k := 26) (n := 8685) (by omega) (by omega) ?_
  refine lv_dup hx hb d_Leastcode_init_132 rfl ?_
  have hPc : va_P (dC, dI) classes [(q42, .inr (6, [.null, .int 0]))] _ := hP.sub (ws' := [(q42, .inr (6, [.null, .int 0]))]) [17] rfl
  have hKc : va_K (dC, dI) classes [] s := hK.sub (tys' := []) [] rfl
  have hDc : va_D _ [(q42, .inr (6, [.null, .int 0]))] := hD.sub (ws' := [(q42, .inr (6, [.null, .int 0]))]) [17] (by decide) rfl
  have hFc := va_free (wc := [(q42, .inr (6, [.null, .int 0]))]) hD hS hA [17] rfl
  refine va_callv (va_runIN (As := []) (rest := [.ref q42, .ref h0]) ⟨hx, hb, hml, hown, hts⟩ (c_Goal_init l dC dI q42 H.size) ⟨va_cnB 0 hts g_Leastcode_init_133 rfl rfl rfl hE13 (hts (.initialized "Leastcode$Goal") (List.mem_of_getElem? (i := 170) rfl)) (by decide +kernel) ⟨Nat.le_of_ble_eq_true rfl, Nat.le_of_ble_eq_true rfl⟩, rfl, (hts (.instanceMethod ⟨"Leastcode$Goal", "<init>", "()V"⟩) (List.mem_of_getElem? (i := 174) rfl))⟩ ⟨fun a U g mk z => by obtain ⟨z0, z1, zP, zK, zD⟩ := z; exact ⟨z0, z1, zP, va_K.moved (u := U) (U := U.calling g mk a) (Vm.Alike.refl U.vm) zK, zD⟩, fun U hU hW => ⟨rfl, by rw [hU], by rw [hU]; exact hPc, va_K.moved hW.alike hKc, hDc.weaken (fun _ _ _ _ => trivial)⟩⟩ rfl rfl hl.1 rfl (lv_room (Nat.le_of_ble_eq_true rfl)) d_Leastcode_init_133 ⟨(Nat.le_of_ble_eq_true rfl), (Nat.le_of_ble_eq_true rfl)⟩) hS (fun q _ h => hFc q h) hFc (fun u t H1 locs ht hvm hr43 hB hz1 hk1 hS => ?_)
  obtain ⟨q44, hP1, hK1, hD1⟩ := hB
  rw [ht] at hP1
  have hK1 := va_K.moved hvm.symm hK1
  obtain ⟨hP, hD⟩ := va_join (wr := [(h0, .inr (0, [.ref q1, .ref q12, .ref q15, .ref q17, .ref q20, .int 0, .ref q22, .int 0, .ref q24, .int 0, .ref q26, .ref q28, .ref q30, .int 0, .ref q34, .ref q38, .null])), (q1, .inr (1, [.ref qn3, .ref qa4, .ref qb5, .ref qc6, .ref qd7, .ref qe8, .ref qf9])), (qn3, .inl (cA10, 6016, .inl (f11))), (q12, .inr (3, [.ref q14, .int 0])), (q15, .inr (4, [.int 1])), (q17, .inr (5, [.ref q1, .ref qa19, .int 0])), (q20, .inl (cA21, 8, .inr (.inr (.inr (.inr (fun _ => none)))))), (q22, .inl (cA23, 6, .inr (.inr (.inr (.inr (fun _ => none)))))), (q24, .inl (cA25, 8, .inr (.inr (.inr (.inr (fun _ => none)))))), (q26, .inl (cA27, 128, .inl (fun _ => 0))), (q28, .inl (cA29, 3, .inl (fun _ => 0))), (q30, .inr (2, [.ref q32, .int 0])), (q32, .inl (cA33, 8, .inl (fun _ => 0))), (q34, .inr (2, [.ref q36, .int 0])), (q36, .inl (cA37, 8, .inl (fun _ => 0))), (q38, .inr (2, [.ref q40, .int 0])), (q40, .inl (cA41, 8, .inl (fun _ => 0)))]) (w1 := [(q42, .inr (6, [.ref q44, .int 0]))]) hP hD [17] [0, 1, 2, 3, 4, 5, 6, 7, 8, 9, 10, 11, 12, 13, 14, 15, 16] rfl rfl (by decide) (by decide) hk1 hFc hP1 hD1
  clear hPc hDc hKc hFc hP1 hD1 hK1 hk1
  generalize H1 = H at hP hS ⊢
  have hP : va_P (dC, dI) classes [(h0, .inr (0, [.ref q1, .ref q12, .ref q15, .ref q17, .ref q20, .int 0, .ref q22, .int 0, .ref q24, .int 0, .ref q26, .ref q28, .ref q30, .int 0, .ref q34, .ref q38, .null])), (q1, .inr (1, [.ref qn3, .ref qa4, .ref qb5, .ref qc6, .ref qd7, .ref qe8, .ref qf9])), (qn3, .inl (cA10, 6016, .inl (f11))), (q12, .inr (3, [.ref q14, .int 0])), (q15, .inr (4, [.int 1])), (q17, .inr (5, [.ref q1, .ref qa19, .int 0])), (q20, .inl (cA21, 8, .inr (.inr (.inr (.inr (fun _ => none)))))), (q22, .inl (cA23, 6, .inr (.inr (.inr (.inr (fun _ => none)))))), (q24, .inl (cA25, 8, .inr (.inr (.inr (.inr (fun _ => none)))))), (q26, .inl (cA27, 128, .inl (fun _ => 0))), (q28, .inl (cA29, 3, .inl (fun _ => 0))), (q30, .inr (2, [.ref q32, .int 0])), (q32, .inl (cA33, 8, .inl (fun _ => 0))), (q34, .inr (2, [.ref q36, .int 0])), (q36, .inl (cA37, 8, .inl (fun _ => 0))), (q38, .inr (2, [.ref q40, .int 0])), (q40, .inl (cA41, 8, .inl (fun _ => 0))), (q42, .inr (6, [.ref q44, .int 0]))] H := hP
  have hD : va_D A [(h0, .inr (0, [.ref q1, .ref q12, .ref q15, .ref q17, .ref q20, .int 0, .ref q22, .int 0, .ref q24, .int 0, .ref q26, .ref q28, .ref q30, .int 0, .ref q34, .ref q38, .null])), (q1, .inr (1, [.ref qn3, .ref qa4, .ref qb5, .ref qc6, .ref qd7, .ref qe8, .ref qf9])), (qn3, .inl (cA10, 6016, .inl (f11))), (q12, .inr (3, [.ref q14, .int 0])), (q15, .inr (4, [.int 1])), (q17, .inr (5, [.ref q1, .ref qa19, .int 0])), (q20, .inl (cA21, 8, .inr (.inr (.inr (.inr (fun _ => none)))))), (q22, .inl (cA23, 6, .inr (.inr (.inr (.inr (fun _ => none)))))), (q24, .inl (cA25, 8, .inr (.inr (.inr (.inr (fun _ => none)))))), (q26, .inl (cA27, 128, .inl (fun _ => 0))), (q28, .inl (cA29, 3, .inl (fun _ => 0))), (q30, .inr (2, [.ref q32, .int 0])), (q32, .inl (cA33, 8, .inl (fun _ => 0))), (q34, .inr (2, [.ref q36, .int 0])), (q36, .inl (cA37, 8, .inl (fun _ => 0))), (q38, .inr (2, [.ref q40, .int 0])), (q40, .inl (cA41, 8, .inl (fun _ => 0))), (q42, .inr (6, [.ref q44, .int 0]))] := hD
  refine W.widen (k := 27) (n := 8813) (by omega) (by omega) ?_
  refine va_putF (D := (dC, dI)) (ci := 0) (v := .ref q42) (ty := .object "Leastcode$Goal") (C := R_LC) (T := T_LC) (N := 17) hx hb hts in_Leastcode_init_LC t_LC t_LC_ok n_LC hown hK hP hD hS 0 rfl rfl 16 (by decide) (hts (.fieldLink "Leastcode" 76 "Leastcode" "windowGoal" "LLeastcode$Goal;") (List.mem_of_getElem? (i := 175) rfl)) (fun _ h9 => h9) rfl hin rfl (by decide +kernel) rfl rfl (Nat.le_of_ble_eq_true rfl) d_Leastcode_init_136 (fun H locs hP hD hS => ?_)
  have hP : va_P (dC, dI) classes [(h0, .inr (0, [.ref q1, .ref q12, .ref q15, .ref q17, .ref q20, .int 0, .ref q22, .int 0, .ref q24, .int 0, .ref q26, .ref q28, .ref q30, .int 0, .ref q34, .ref q38, .ref q42])), (q1, .inr (1, [.ref qn3, .ref qa4, .ref qb5, .ref qc6, .ref qd7, .ref qe8, .ref qf9])), (qn3, .inl (cA10, 6016, .inl (f11))), (q12, .inr (3, [.ref q14, .int 0])), (q15, .inr (4, [.int 1])), (q17, .inr (5, [.ref q1, .ref qa19, .int 0])), (q20, .inl (cA21, 8, .inr (.inr (.inr (.inr (fun _ => none)))))), (q22, .inl (cA23, 6, .inr (.inr (.inr (.inr (fun _ => none)))))), (q24, .inl (cA25, 8, .inr (.inr (.inr (.inr (fun _ => none)))))), (q26, .inl (cA27, 128, .inl (fun _ => 0))), (q28, .inl (cA29, 3, .inl (fun _ => 0))), (q30, .inr (2, [.ref q32, .int 0])), (q32, .inl (cA33, 8, .inl (fun _ => 0))), (q34, .inr (2, [.ref q36, .int 0])), (q36, .inl (cA37, 8, .inl (fun _ => 0))), (q38, .inr (2, [.ref q40, .int 0])), (q40, .inl (cA41, 8, .inl (fun _ => 0))), (q42, .inr (6, [.ref q44, .int 0]))] H := hP
  have hD : va_D A [(h0, .inr (0, [.ref q1, .ref q12, .ref q15, .ref q17, .ref q20, .int 0, .ref q22, .int 0, .ref q24, .int 0, .ref q26, .ref q28, .ref q30, .int 0, .ref q34, .ref q38, .ref q42])), (q1, .inr (1, [.ref qn3, .ref qa4, .ref qb5, .ref qc6, .ref qd7, .ref qe8, .ref qf9])), (qn3, .inl (cA10, 6016, .inl (f11))), (q12, .inr (3, [.ref q14, .int 0])), (q15, .inr (4, [.int 1])), (q17, .inr (5, [.ref q1, .ref qa19, .int 0])), (q20, .inl (cA21, 8, .inr (.inr (.inr (.inr (fun _ => none)))))), (q22, .inl (cA23, 6, .inr (.inr (.inr (.inr (fun _ => none)))))), (q24, .inl (cA25, 8, .inr (.inr (.inr (.inr (fun _ => none)))))), (q26, .inl (cA27, 128, .inl (fun _ => 0))), (q28, .inl (cA29, 3, .inl (fun _ => 0))), (q30, .inr (2, [.ref q32, .int 0])), (q32, .inl (cA33, 8, .inl (fun _ => 0))), (q34, .inr (2, [.ref q36, .int 0])), (q36, .inl (cA37, 8, .inl (fun _ => 0))), (q38, .inr (2, [.ref q40, .int 0])), (q40, .inl (cA41, 8, .inl (fun _ => 0))), (q42, .inr (6, [.ref q44, .int 0]))] := hD
  refine lv_iconst (v := 0) hx hb d_Leastcode_init_139 (by decide) ?_
  refine lv_istore_n (lv' := [(1, .int 0), (0, .ref h0)]) hx hb d_Leastcode_init_140 rfl hl (by decide) rfl (fun ls hl => ?_)
  refine ry_abs (fun QQ hQ => ?_)
  have hP : va_P (dC, dI) classes [(h0, .inr (0, [.ref q1, .ref q12, .ref q15, .ref q17, .ref q20, .int 0, .ref q22, .int 0, .ref q24, .int 0, .ref q26, .ref q28, .ref q30, .int 0, .ref q34, .ref q38, .ref q42])), (q1, .inr (1, [.ref qn3, .ref qa4, .ref qb5, .ref qc6, .ref qd7, .ref qe8, .ref qf9])), (qn3, .inl (cA10, 6016, .inl (f11))), (q20, .inl (cA21, 8, .inr (.inr (.inr (.inr (fun _ => none)))))), (q22, .inl (cA23, 6, .inr (.inr (.inr (.inr (fun _ => none)))))), (q24, .inl (cA25, 8, .inr (.inr (.inr (.inr (fun _ => none))))))] H := hP.sub [0, 1, 2, 6, 7, 8] rfl
  have hD : va_D A [(h0, .inr (0, [.ref q1, .ref q12, .ref q15, .ref q17, .ref q20, .int 0, .ref q22, .int 0, .ref q24, .int 0, .ref q26, .ref q28, .ref q30, .int 0, .ref q34, .ref q38, .ref q42])), (q1, .inr (1, [.ref qn3, .ref qa4, .ref qb5, .ref qc6, .ref qd7, .ref qe8, .ref qf9])), (qn3, .inl (cA10, 6016, .inl (f11))), (q20, .inl (cA21, 8, .inr (.inr (.inr (.inr (fun _ => none)))))), (q22, .inl (cA23, 6, .inr (.inr (.inr (.inr (fun _ => none)))))), (q24, .inl (cA25, 8, .inr (.inr (.inr (.inr (fun _ => none))))))] := hD.sub [0, 1, 2, 6, 7, 8] (by decide) rfl
  have hK : va_K (dC, dI) classes [(cA10, .int), (cA21, .object "Leastcode$Code"), (cA23, .object "Leastcode$Goal"), (cA25, .object "Leastcode$Rule")] s := hK.sub [0, 1, 2, 3] rfl
  refine lv_iload_n hx hb d_Leastcode_init_141 rfl (lv_at hl 0 rfl) ?_
  refine lv_bipush (v := 8) hx hb d_Leastcode_init_142 (by decide) ?_
  refine lv_icmp_ge (tgt := 166) hx hb d_Leastcode_init_144 (by decide) (fun c_144 => ?_) (fun c_144 => ?_)
  · exact absurd c_144 (by decide)
  · skip
    refine lv_aload_n hx hb d_Leastcode_init_147 rfl (lv_at hl 1 rfl) ?_
    refine va_get (D := (dC, dI)) (ci := 0) (v := .ref q20) (C := R_LC) (T := T_LC) (N := 17) hx hb hts in_Leastcode_init_LC hown hK hP 0 rfl rfl 4 (by decide) (hts (.fieldLink "Leastcode" 41 "Leastcode" "programs" "[LLeastcode$Code;") (List.mem_of_getElem? (i := 157) rfl)) (fun _ h9 => h9) rfl d_Leastcode_init_148 ?_
    refine lv_iload_n hx hb d_Leastcode_init_151 rfl (lv_at hl 0 rfl) ?_
    refine va_new (D := (dC, dI)) (ci := 2) (fs := [.null, .int 0]) (C := R_CO) (T := T_CO) (N := 2) hx hb hts in_Leastcode_init_CO t_CO t_CO_ok hown (hts (.classLink "Leastcode" 39 "Leastcode$Code") (List.mem_of_getElem? (i := 156) rfl)) (hts (.instantiable "Leastcode$Code" 2) (List.mem_of_getElem? (i := 145) rfl)) (hts (.initialized "Leastcode$Code") (List.mem_of_getElem? (i := 146) rfl)) hK hP hD hS hA rfl (fun j hj => by rcases (show j = 0 ∨ j = 1 by omega) with rfl | rfl <;> rfl) (Nat.le_of_ble_eq_true rfl) (Nat.le_of_ble_eq_true rfl) d_Leastcode_init_152 (fun q45 H hP hD hS => ?_)
    have hP : va_P (dC, dI) classes [(h0, .inr (0, [.ref q1, .ref q12, .ref q15, .ref q17, .ref q20, .int 0, .ref q22, .int 0, .ref q24, .int 0, .ref q26, .ref q28, .ref q30, .int 0, .ref q34, .ref q38, .ref q42])), (q1, .inr (1, [.ref qn3, .ref qa4, .ref qb5, .ref qc6, .ref qd7, .ref qe8, .ref qf9])), (qn3, .inl (cA10, 6016, .inl (f11))), (q20, .inl (cA21, 8, .inr (.inr (.inr (.inr (fun _ => none)))))), (q22, .inl (cA23, 6, .inr (.inr (.inr (.inr (fun _ => none)))))), (q24, .inl (cA25, 8, .inr (.inr (.inr (.inr (fun _ => none)))))), (q45, .inr (2, [.null, .int 0]))] H := hP
    have hD : va_D A [(h0, .inr (0, [.ref q1, .ref q12, .ref q15, .ref q17, .ref q20, .int 0, .ref q22, .int 0, .ref q24, .int 0, .ref q26, .ref q28, .ref q30, .int 0, .ref q34, .ref q38, .ref q42])), (q1, .inr (1, [.ref qn3, .ref qa4, .ref qb5, .ref qc6, .ref qd7, .ref qe8, .ref qf9])), (qn3, .inl (cA10, 6016, .inl (f11))), (q20, .inl (cA21, 8, .inr (.inr (.inr (.inr (fun _ => none)))))), (q22, .inl (cA23, 6, .inr (.inr (.inr (.inr (fun _ => none)))))), (q24, .inl (cA25, 8, .inr (.inr (.inr (.inr (fun _ => none)))))), (q45, .inr (2, [.null, .int 0]))] := hD
    refine W.widen (k := 28) (n := 8815) (by omega) (by omega) ?_
    refine lv_dup hx hb d_Leastcode_init_155 rfl ?_
    have hPc : va_P (dC, dI) classes [(q45, .inr (2, [.null, .int 0]))] _ := hP.sub (ws' := [(q45, .inr (2, [.null, .int 0]))]) [6] rfl
    have hKc : va_K (dC, dI) classes [] s := hK.sub (tys' := []) [] rfl
    have hDc : va_D _ [(q45, .inr (2, [.null, .int 0]))] := hD.sub (ws' := [(q45, .inr (2, [.null, .int 0]))]) [6] (by decide) rfl
    have hFc := va_free (wc := [(q45, .inr (2, [.null, .int 0]))]) hD hS hA [6] rfl
    refine va_callv (va_runIN (As := []) (rest := [.ref q45, .int 0, .ref q20]) ⟨hx, hb, hml, hown, hts⟩ (c_Code_init l dC dI q45 H.size) ⟨va_cnB 0 hts g_Leastcode_init_156 rfl rfl rfl hE12 (hts (.initialized "Leastcode$Code") (List.mem_of_getElem? (i := 146) rfl)) (by decide +kernel) ⟨Nat.le_of_ble_eq_true rfl, Nat.le_of_ble_eq_true rfl⟩, rfl, (hts (.instanceMethod ⟨"Leastcode$Code", "<init>", "()V"⟩) (List.mem_of_getElem? (i := 150) rfl))⟩ ⟨fun a U g mk z => by obtain ⟨z0, z1, zP, zK, zD⟩ := z; exact ⟨z0, z1, zP, va_K.moved (u := U) (U := U.calling g mk a) (Vm.Alike.refl U.vm) zK, zD⟩, fun U hU hW => ⟨rfl, by rw [hU], by rw [hU]; exact hPc, va_K.moved hW.alike hKc, hDc.weaken (fun _ _ _ _ => trivial)⟩⟩ rfl rfl hl.1 rfl (lv_room (Nat.le_of_ble_eq_true rfl)) d_Leastcode_init_156 ⟨(Nat.le_of_ble_eq_true rfl), (Nat.le_of_ble_eq_true rfl)⟩) hS (fun q _ h => hFc q h) hFc (fun u t H1 locs ht hvm hr46 hB hz1 hk1 hS => ?_)
    obtain ⟨q47, cA48, hP1, hK1, hD1⟩ := hB
    rw [ht] at hP1
    have hK1 := va_K.moved hvm.symm hK1
    obtain ⟨hP, hD⟩ := va_join (wr := [(h0, .inr (0, [.ref q1, .ref q12, .ref q15, .ref q17, .ref q20, .int 0, .ref q22, .int 0, .ref q24, .int 0, .ref q26, .ref q28, .ref q30, .int 0, .ref q34, .ref q38, .ref q42])), (q1, .inr (1, [.ref qn3, .ref qa4, .ref qb5, .ref qc6, .ref qd7, .ref qe8, .ref qf9])), (qn3, .inl (cA10, 6016, .inl (f11))), (q20, .inl (cA21, 8, .inr (.inr (.inr (.inr (fun _ => none)))))), (q22, .inl (cA23, 6, .inr (.inr (.inr (.inr (fun _ => none)))))), (q24, .inl (cA25, 8, .inr (.inr (.inr (.inr (fun _ => none))))))]) (w1 := [(q45, .inr (2, [.ref q47, .int 0])), (q47, .inl (cA48, 8, .inl (fun _ => 0)))]) hP hD [6] [0, 1, 2, 3, 4, 5] rfl rfl (by decide) (by decide) hk1 hFc hP1 hD1
    have hK := hK.app (hK1.sub (tys' := [(cA48, .int)]) [0] rfl)
    have hK : va_K (dC, dI) classes [(cA10, .int), (cA21, .object "Leastcode$Code"), (cA23, .object "Leastcode$Goal"), (cA25, .object "Leastcode$Rule"), (cA48, .int)] s := hK
    clear hPc hDc hKc hFc hP1 hD1 hK1 hk1
    generalize H1 = H at hP hS ⊢
    have hP : va_P (dC, dI) classes [(h0, .inr (0, [.ref q1, .ref q12, .ref q15, .ref q17, .ref q20, .int 0, .ref q22, .int 0, .ref q24, .int 0, .ref q26, .ref q28, .ref q30, .int 0, .ref q34, .ref q38, .ref q42])), (q1, .inr (1, [.ref qn3, .ref qa4, .ref qb5, .ref qc6, .ref qd7, .ref qe8, .ref qf9])), (qn3, .inl (cA10, 6016, .inl (f11))), (q20, .inl (cA21, 8, .inr (.inr (.inr (.inr (fun _ => none)))))), (q22, .inl (cA23, 6, .inr (.inr (.inr (.inr (fun _ => none)))))), (q24, .inl (cA25, 8, .inr (.inr (.inr (.inr (fun _ => none)))))), (q45, .inr (2, [.ref q47, .int 0])), (q47, .inl (cA48, 8, .inl (fun _ => 0)))] H := hP
    have hD : va_D A [(h0, .inr (0, [.ref q1, .ref q12, .ref q15, .ref q17, .ref q20, .int 0, .ref q22, .int 0, .ref q24, .int 0, .ref q26, .ref q28, .ref q30, .int 0, .ref q34, .ref q38, .ref q42])), (q1, .inr (1, [.ref qn3, .ref qa4, .ref qb5, .ref qc6, .ref qd7, .ref qe8, .ref qf9])), (qn3, .inl (cA10, 6016, .inl (f11))), (q20, .inl (cA21, 8, .inr (.inr (.inr (.inr (fun _ => none)))))), (q22, .inl (cA23, 6, .inr (.inr (.inr (.inr (fun _ => none)))))), (q24, .inl (cA25, 8, .inr (.inr (.inr (.inr (fun _ => none)))))), (q45, .inr (2, [.ref q47, .int 0])), (q47, .inl (cA48, 8, .inl (fun _ => 0)))] := hD
    refine W.widen (k := 29) (n := 8823) (by omega) (by omega) ?_
    refine va_astq (D := (dC, dI)) hx hb hK hP hD hS 3 1 6 2 rfl rfl rfl rfl (by unfold vp_in; decide) d_Leastcode_init_159 (fun H locs hP hD hS => ?_)
    have hP : va_P (dC, dI) classes [(h0, .inr (0, [.ref q1, .ref q12, .ref q15, .ref q17, .ref q20, .int 0, .ref q22, .int 0, .ref q24, .int 0, .ref q26, .ref q28, .ref q30, .int 0, .ref q34, .ref q38, .ref q42])), (q1, .inr (1, [.ref qn3, .ref qa4, .ref qb5, .ref qc6, .ref qd7, .ref qe8, .ref qf9])), (qn3, .inl (cA10, 6016, .inl (f11))), (q20, .inl (cA21, 8, .inr (.inr (.inr (.inr (va_up (fun _ => none) (0 : Int32).toNatClampNeg (some q45))))))), (q22, .inl (cA23, 6, .inr (.inr (.inr (.inr (fun _ => none)))))), (q24, .inl (cA25, 8, .inr (.inr (.inr (.inr (fun _ => none)))))), (q45, .inr (2, [.ref q47, .int 0])), (q47, .inl (cA48, 8, .inl (fun _ => 0)))] H := hP
    have hD : va_D A [(h0, .inr (0, [.ref q1, .ref q12, .ref q15, .ref q17, .ref q20, .int 0, .ref q22, .int 0, .ref q24, .int 0, .ref q26, .ref q28, .ref q30, .int 0, .ref q34, .ref q38, .ref q42])), (q1, .inr (1, [.ref qn3, .ref qa4, .ref qb5, .ref qc6, .ref qd7, .ref qe8, .ref qf9])), (qn3, .inl (cA10, 6016, .inl (f11))), (q20, .inl (cA21, 8, .inr (.inr (.inr (.inr (va_up (fun _ => none) (0 : Int32).toNatClampNeg (some q45))))))), (q22, .inl (cA23, 6, .inr (.inr (.inr (.inr (fun _ => none)))))), (q24, .inl (cA25, 8, .inr (.inr (.inr (.inr (fun _ => none)))))), (q45, .inr (2, [.ref q47, .int 0])), (q47, .inl (cA48, 8, .inl (fun _ => 0)))] := hD
    obtain ⟨f49, ef49⟩ : ∃ z : Nat → Option Nat, z = va_up (fun _ => none) (0 : Int32).toNatClampNeg (some q45) := ⟨_, rfl⟩
    rw [← ef49] at hP hD
    obtain ⟨x50, ex50⟩ : ∃ y : Int32, y = 0 + 1 := ⟨_, rfl⟩
    refine lv_iinc (v := x50) (lv' := [(1, .int x50), (0, .ref h0)]) hx hb d_Leastcode_init_160 hl (k := 0) rfl (by rw [ex50]; rfl) (by decide) rfl (fun ls hl => ?_)
    refine lv_goto (tgt := 141) hx hb d_Leastcode_init_163 (by decide) ?_
    have hf0 : f49 0 = some q45 := by rw [ef49, show (0 : Int32).toNatClampNeg = 0 by decide]; exact va_up_self _ _ _
    have hP : va_P (dC, dI) classes [(h0, .inr (0, [.ref q1, .ref q12, .ref q15, .ref q17, .ref q20, .int 0, .ref q22, .int 0, .ref q24, .int 0, .ref q26, .ref q28, .ref q30, .int 0, .ref q34, .ref q38, .ref q42])), (q1, .inr (1, [.ref qn3, .ref qa4, .ref qb5, .ref qc6, .ref qd7, .ref qe8, .ref qf9])), (qn3, .inl (cA10, 6016, .inl (f11))), (q20, .inl (cA21, 8, .inr (.inr (.inr (.inr (f49)))))), (q22, .inl (cA23, 6, .inr (.inr (.inr (.inr (fun _ => none)))))), (q24, .inl (cA25, 8, .inr (.inr (.inr (.inr (fun _ => none)))))), (q45, .inr (2, [.ref q47, .int 0])), (q47, .inl (cA48, 8, .inl (fun _ => 0)))] H := hP.sub [0, 1, 2, 3, 4, 5, 6, 7] rfl
    have hD : va_D A [(h0, .inr (0, [.ref q1, .ref q12, .ref q15, .ref q17, .ref q20, .int 0, .ref q22, .int 0, .ref q24, .int 0, .ref q26, .ref q28, .ref q30, .int 0, .ref q34, .ref q38, .ref q42])), (q1, .inr (1, [.ref qn3, .ref qa4, .ref qb5, .ref qc6, .ref qd7, .ref qe8, .ref qf9])), (qn3, .inl (cA10, 6016, .inl (f11))), (q20, .inl (cA21, 8, .inr (.inr (.inr (.inr (f49)))))), (q22, .inl (cA23, 6, .inr (.inr (.inr (.inr (fun _ => none)))))), (q24, .inl (cA25, 8, .inr (.inr (.inr (.inr (fun _ => none)))))), (q45, .inr (2, [.ref q47, .int 0])), (q47, .inl (cA48, 8, .inl (fun _ => 0)))] := hD.sub [0, 1, 2, 3, 4, 5, 6, 7] (by decide) rfl
    have hK : va_K (dC, dI) classes [(cA10, .int), (cA21, .object "Leastcode$Code"), (cA23, .object "Leastcode$Goal"), (cA25, .object "Leastcode$Rule"), (cA48, .int)] s := hK.sub [0, 1, 2, 3, 4] rfl
    refine W.widen (k := 29) (n := 8823) (by omega) (by omega) ?_
    have loopp : ∀ (kp ip : Nat), ip + kp = 8 → ∀ (H : Heap) (locs : List Loc) (fp : Nat → Option Nat) (ls : Array Slot) (xp : Int32), xp = nI ip → (1 ≤ ip) → (fp 0 = some q45) → va_P (dC, dI) classes [(h0, .inr (0, [.ref q1, .ref q12, .ref q15, .ref q17, .ref q20, .int 0, .ref q22, .int 0, .ref q24, .int 0, .ref q26, .ref q28, .ref q30, .int 0, .ref q34, .ref q38, .ref q42])), (q1, .inr (1, [.ref qn3, .ref qa4, .ref qb5, .ref qc6, .ref qd7, .ref qe8, .ref qf9])), (qn3, .inl (cA10, 6016, .inl (f11))), (q20, .inl (cA21, 8, .inr (.inr (.inr (.inr (fp)))))), (q22, .inl (cA23, 6, .inr (.inr (.inr (.inr (fun _ => none)))))), (q24, .inl (cA25, 8, .inr (.inr (.inr (.inr (fun _ => none)))))), (q45, .inr (2, [.ref q47, .int 0])), (q47, .inl (cA48, 8, .inl (fun _ => 0)))] H → va_D A [(h0, .inr (0, [.ref q1, .ref q12, .ref q15, .ref q17, .ref q20, .int 0, .ref q22, .int 0, .ref q24, .int 0, .ref q26, .ref q28, .ref q30, .int 0, .ref q34, .ref q38, .ref q42])), (q1, .inr (1, [.ref qn3, .ref qa4, .ref qb5, .ref qc6, .ref qd7, .ref qe8, .ref qf9])), (qn3, .inl (cA10, 6016, .inl (f11))), (q20, .inl (cA21, 8, .inr (.inr (.inr (.inr (fp)))))), (q22, .inl (cA23, 6, .inr (.inr (.inr (.inr (fun _ => none)))))), (q24, .inl (cA25, 8, .inr (.inr (.inr (.inr (fun _ => none)))))), (q45, .inr (2, [.ref q47, .int 0])), (q47, .inl (cA48, 8, .inl (fun _ => 0)))] → va_S A s.heap H locs → lv_has ls 2 [(1, .int xp), (0, .ref h0)] → W p l e (headSpec w_Leastcode_init rm_Leastcode_init).room s m ([.ref h0] : List Value).toArray below meth c H locs (29 + 2 * (ip - 1)) (8823 + 10 * (ip - 1)) QQ (F0 m 141 ls []) := by
      intro kp
      induction kp with
      | zero =>
        intro ip hip H locs fp ls xp ex0p hi1p hf0p hP hD hS hl
        obtain rfl : ip = 8 := by omega
        refine W.widen (k := 43) (n := 8893) (by omega) (by omega) ?_
        refine lv_iload_n hx hb d_Leastcode_init_141 rfl (lv_at hl 0 rfl) ?_
        refine lv_bipush (v := 8) hx hb d_Leastcode_init_142 (by decide) ?_
        refine lv_icmp_ge (tgt := 166) hx hb d_Leastcode_init_144 (by decide) (fun c_144 => ?_) (fun c_144 => ?_)
        · skip
          refine lv_iconst (v := 0) hx hb d_Leastcode_init_166 (by decide) ?_
          refine lv_istore_n (lv' := [(1, .int 0), (0, .ref h0)]) hx hb d_Leastcode_init_167 rfl hl (by decide) rfl (fun ls hl => ?_)
          have loopg : ∀ (kg ig : Nat), ig + kg = 6 → ∀ (H : Heap) (locs : List Loc) (fg : Nat → Option Nat) (ls : Array Slot) (xg : Int32), xg = nI ig → (0 ≤ ig) → va_P (dC, dI) classes [(h0, .inr (0, [.ref q1, .ref q12, .ref q15, .ref q17, .ref q20, .int 0, .ref q22, .int 0, .ref q24, .int 0, .ref q26, .ref q28, .ref q30, .int 0, .ref q34, .ref q38, .ref q42])), (q1, .inr (1, [.ref qn3, .ref qa4, .ref qb5, .ref qc6, .ref qd7, .ref qe8, .ref qf9])), (qn3, .inl (cA10, 6016, .inl (f11))), (q20, .inl (cA21, 8, .inr (.inr (.inr (.inr (fp)))))), (q22, .inl (cA23, 6, .inr (.inr (.inr (.inr (fg)))))), (q24, .inl (cA25, 8, .inr (.inr (.inr (.inr (fun _ => none)))))), (q45, .inr (2, [.ref q47, .int 0])), (q47, .inl (cA48, 8, .inl (fun _ => 0)))] H → va_D A [(h0, .inr (0, [.ref q1, .ref q12, .ref q15, .ref q17, .ref q20, .int 0, .ref q22, .int 0, .ref q24, .int 0, .ref q26, .ref q28, .ref q30, .int 0, .ref q34, .ref q38, .ref q42])), (q1, .inr (1, [.ref qn3, .ref qa4, .ref qb5, .ref qc6, .ref qd7, .ref qe8, .ref qf9])), (qn3, .inl (cA10, 6016, .inl (f11))), (q20, .inl (cA21, 8, .inr (.inr (.inr (.inr (fp)))))), (q22, .inl (cA23, 6, .inr (.inr (.inr (.inr (fg)))))), (q24, .inl (cA25, 8, .inr (.inr (.inr (.inr (fun _ => none)))))), (q45, .inr (2, [.ref q47, .int 0])), (q47, .inl (cA48, 8, .inl (fun _ => 0)))] → va_S A s.heap H locs → lv_has ls 2 [(1, .int xg), (0, .ref h0)] → W p l e (headSpec w_Leastcode_init rm_Leastcode_init).room s m ([.ref h0] : List Value).toArray below meth c H locs (43 + 2 * (ig - 0)) (8893 + 130 * (ig - 0)) QQ (F0 m 168 ls []) := by
            intro kg
            induction kg with
            | zero =>
              intro ig hig H locs fg ls xg ex0g hi1g hP hD hS hl
              obtain rfl : ig = 6 := by omega
              refine W.widen (k := 55) (n := 9673) (by omega) (by omega) ?_
              refine lv_iload_n hx hb d_Leastcode_init_168 rfl (lv_at hl 0 rfl) ?_
              refine lv_bipush (v := 6) hx hb d_Leastcode_init_169 (by decide) ?_
              refine lv_icmp_ge (tgt := 193) hx hb d_Leastcode_init_171 (by decide) (fun c_171 => ?_) (fun c_171 => ?_)
              · skip
                refine lv_iconst (v := 0) hx hb d_Leastcode_init_193 (by decide) ?_
                refine lv_istore_n (lv' := [(1, .int 0), (0, .ref h0)]) hx hb d_Leastcode_init_194 rfl hl (by decide) rfl (fun ls hl => ?_)
                have loopr : ∀ (kr ir : Nat), ir + kr = 8 → ∀ (H : Heap) (locs : List Loc) (fr : Nat → Option Nat) (ls : Array Slot) (xr : Int32), xr = nI ir → (0 ≤ ir) → va_P (dC, dI) classes [(h0, .inr (0, [.ref q1, .ref q12, .ref q15, .ref q17, .ref q20, .int 0, .ref q22, .int 0, .ref q24, .int 0, .ref q26, .ref q28, .ref q30, .int 0, .ref q34, .ref q38, .ref q42])), (q1, .inr (1, [.ref qn3, .ref qa4, .ref qb5, .ref qc6, .ref qd7, .ref qe8, .ref qf9])), (qn3, .inl (cA10, 6016, .inl (f11))), (q20, .inl (cA21, 8, .inr (.inr (.inr (.inr (fp)))))), (q22, .inl (cA23, 6, .inr (.inr (.inr (.inr (fg)))))), (q24, .inl (cA25, 8, .inr (.inr (.inr (.inr (fr)))))), (q45, .inr (2, [.ref q47, .int 0])), (q47, .inl (cA48, 8, .inl (fun _ => 0)))] H → va_D A [(h0, .inr (0, [.ref q1, .ref q12, .ref q15, .ref q17, .ref q20, .int 0, .ref q22, .int 0, .ref q24, .int 0, .ref q26, .ref q28, .ref q30, .int 0, .ref q34, .ref q38, .ref q42])), (q1, .inr (1, [.ref qn3, .ref qa4, .ref qb5, .ref qc6, .ref qd7, .ref qe8, .ref qf9])), (qn3, .inl (cA10, 6016, .inl (f11))), (q20, .inl (cA21, 8, .inr (.inr (.inr (.inr (fp)))))), (q22, .inl (cA23, 6, .inr (.inr (.inr (.inr (fg)))))), (q24, .inl (cA25, 8, .inr (.inr (.inr (.inr (fr)))))), (q45, .inr (2, [.ref q47, .int 0])), (q47, .inl (cA48, 8, .inl (fun _ => 0)))] → va_S A s.heap H locs → lv_has ls 2 [(1, .int xr), (0, .ref h0)] → W p l e (headSpec w_Leastcode_init rm_Leastcode_init).room s m ([.ref h0] : List Value).toArray below meth c H locs (55 + 9 * (ir - 0)) (9673 + 47 * (ir - 0)) QQ (F0 m 195 ls []) := by
                  intro kr
                  induction kr with
                  | zero =>
                    intro ir hir H locs fr ls xr ex0r hi1r hP hD hS hl
                    obtain rfl : ir = 8 := by omega
                    refine W.widen (k := 127) (n := 10049) (by omega) (by omega) ?_
                    refine lv_iload_n hx hb d_Leastcode_init_195 rfl (lv_at hl 0 rfl) ?_
                    refine lv_bipush (v := 8) hx hb d_Leastcode_init_196 (by decide) ?_
                    refine lv_icmp_ge (tgt := 220) hx hb d_Leastcode_init_198 (by decide) (fun c_198 => ?_) (fun c_198 => ?_)
                    · skip
                      subst hQ
                      have hP9 : va_P (dC, dI) classes [(h0, .inr (0, [.ref q1, .ref q12, .ref q15, .ref q17, .ref q20, .int 0, .ref q22, .int 0, .ref q24, .int 0, .ref q26, .ref q28, .ref q30, .int 0, .ref q34, .ref q38, .ref q42])), (q1, .inr (1, [.ref qn3, .ref qa4, .ref qb5, .ref qc6, .ref qd7, .ref qe8, .ref qf9])), (qn3, .inl (cA10, 6016, .inl (f11))), (q20, .inl (cA21, 8, .inr (.inr (.inr (.inr (fp)))))), (q45, .inr (2, [.ref q47, .int 0])), (q47, .inl (cA48, 8, .inl (fun _ => 0)))] H := hP.sub (ws' := [(h0, .inr (0, [.ref q1, .ref q12, .ref q15, .ref q17, .ref q20, .int 0, .ref q22, .int 0, .ref q24, .int 0, .ref q26, .ref q28, .ref q30, .int 0, .ref q34, .ref q38, .ref q42])), (q1, .inr (1, [.ref qn3, .ref qa4, .ref qb5, .ref qc6, .ref qd7, .ref qe8, .ref qf9])), (qn3, .inl (cA10, 6016, .inl (f11))), (q20, .inl (cA21, 8, .inr (.inr (.inr (.inr (fp)))))), (q45, .inr (2, [.ref q47, .int 0])), (q47, .inl (cA48, 8, .inl (fun _ => 0)))]) [0, 1, 2, 3, 6, 7] rfl
                      have hD9 := hD.sub (ws' := [(h0, .inr (0, [.ref q1, .ref q12, .ref q15, .ref q17, .ref q20, .int 0, .ref q22, .int 0, .ref q24, .int 0, .ref q26, .ref q28, .ref q30, .int 0, .ref q34, .ref q38, .ref q42])), (q1, .inr (1, [.ref qn3, .ref qa4, .ref qb5, .ref qc6, .ref qd7, .ref qe8, .ref qf9])), (qn3, .inl (cA10, 6016, .inl (f11))), (q20, .inl (cA21, 8, .inr (.inr (.inr (.inr (fp)))))), (q45, .inr (2, [.ref q47, .int 0])), (q47, .inl (cA48, 8, .inl (fun _ => 0)))]) [0, 1, 2, 3, 6, 7] (by decide) rfl
                      have hK9 := hK.sub (tys' := [(cA10, .int), (cA21, .object "Leastcode$Code"), (cA48, .int)]) [0, 1, 4] rfl
                      refine W.widen (k := 127) (n := 10049) (by omega) (by omega) ?_
                      exact W.vret hx hb hr (fun t ht hW => ⟨⟨(), rfl, trivial, ⟨q1, ⟨qn3, ⟨qa4, ⟨qb5, ⟨qc6, ⟨qd7, ⟨qe8, ⟨qf9, ⟨q12, ⟨q15, ⟨q17, ⟨q22, ⟨q24, ⟨q26, ⟨q28, ⟨q30, ⟨q34, ⟨q38, ⟨q42, ⟨q20, ⟨q45, ⟨q47, ⟨cA10, ⟨f11, ⟨cA21, ⟨fp, ⟨cA48, ⟨fun _ => 0, ⟨by rw [ht]; exact hP9, va_K.moved hW.alike hK9, hD9, hf0p⟩⟩⟩⟩⟩⟩⟩⟩⟩⟩⟩⟩⟩⟩⟩⟩⟩⟩⟩⟩⟩⟩⟩⟩⟩⟩⟩⟩⟩⟩, hS.F ht⟩) hS.2.2 d_Leastcode_init_220
                    · exact absurd (by rw [ex0r]; exact (show nI 8 ≤ nI 8 from nI_le (Nat.le_refl 8) (by omega))) c_198
                  | succ kr ihr =>
                    intro ir hir H locs fr ls xr ex0r hi1r hP hD hS hl
                    have hltr : ir < 8 := by omega
                    refine lv_iload_n hx hb d_Leastcode_init_195 rfl (lv_at hl 0 rfl) ?_
                    refine lv_bipush (v := 8) hx hb d_Leastcode_init_196 (by decide) ?_
                    refine lv_icmp_ge (tgt := 220) hx hb d_Leastcode_init_198 (by decide) (fun c_198 => ?_) (fun c_198 => ?_)
                    · exact absurd c_198 (by rw [ex0r]; exact (show ¬ nI 8 ≤ nI ir from nI_ge hltr (by omega)))
                    · skip
                      refine lv_aload_n hx hb d_Leastcode_init_201 rfl (lv_at hl 1 rfl) ?_
                      refine va_get (D := (dC, dI)) (ci := 0) (v := .ref q24) (C := R_LC) (T := T_LC) (N := 17) hx hb hts in_Leastcode_init_LC hown hK hP 0 rfl rfl 8 (by decide) (hts (.fieldLink "Leastcode" 53 "Leastcode" "rules" "[LLeastcode$Rule;") (List.mem_of_getElem? (i := 161) rfl)) (fun _ h9 => h9) rfl d_Leastcode_init_202 ?_
                      refine lv_iload_n hx hb d_Leastcode_init_205 rfl (lv_at hl 0 rfl) ?_
                      refine va_new (D := (dC, dI)) (ci := 7) (fs := [.null, .null, .null, .null, .int 0, .int 0, .int 0]) (C := R_RU) (T := T_RU) (N := 7) hx hb hts in_Leastcode_init_RU t_RU t_RU_ok hown (hts (.classLink "Leastcode" 51 "Leastcode$Rule") (List.mem_of_getElem? (i := 160) rfl)) (hts (.instantiable "Leastcode$Rule" 7) (List.mem_of_getElem? (i := 183) rfl)) (hts (.initialized "Leastcode$Rule") (List.mem_of_getElem? (i := 184) rfl)) hK hP hD hS hA rfl (fun j hj => by rcases (show j = 0 ∨ j = 1 ∨ j = 2 ∨ j = 3 ∨ j = 4 ∨ j = 5 ∨ j = 6 by omega) with rfl | rfl | rfl | rfl | rfl | rfl | rfl <;> rfl) (show 55 + 9 * (ir - 0) + 1 ≤ 127 by omega) (show 9673 + 47 * (ir - 0) + 7 ≤ 10049 by omega) d_Leastcode_init_206 (fun q51 H hP hD hS => ?_)
                      have hP : va_P (dC, dI) classes [(h0, .inr (0, [.ref q1, .ref q12, .ref q15, .ref q17, .ref q20, .int 0, .ref q22, .int 0, .ref q24, .int 0, .ref q26, .ref q28, .ref q30, .int 0, .ref q34, .ref q38, .ref q42])), (q1, .inr (1, [.ref qn3, .ref qa4, .ref qb5, .ref qc6, .ref qd7, .ref qe8, .ref qf9])), (qn3, .inl (cA10, 6016, .inl (f11))), (q20, .inl (cA21, 8, .inr (.inr (.inr (.inr (fp)))))), (q22, .inl (cA23, 6, .inr (.inr (.inr (.inr (fg)))))), (q24, .inl (cA25, 8, .inr (.inr (.inr (.inr (fr)))))), (q45, .inr (2, [.ref q47, .int 0])), (q47, .inl (cA48, 8, .inl (fun _ => 0))), (q51, .inr (7, [.null, .null, .null, .null, .int 0, .int 0, .int 0]))] H := hP
                      have hD : va_D A [(h0, .inr (0, [.ref q1, .ref q12, .ref q15, .ref q17, .ref q20, .int 0, .ref q22, .int 0, .ref q24, .int 0, .ref q26, .ref q28, .ref q30, .int 0, .ref q34, .ref q38, .ref q42])), (q1, .inr (1, [.ref qn3, .ref qa4, .ref qb5, .ref qc6, .ref qd7, .ref qe8, .ref qf9])), (qn3, .inl (cA10, 6016, .inl (f11))), (q20, .inl (cA21, 8, .inr (.inr (.inr (.inr (fp)))))), (q22, .inl (cA23, 6, .inr (.inr (.inr (.inr (fg)))))), (q24, .inl (cA25, 8, .inr (.inr (.inr (.inr (fr)))))), (q45, .inr (2, [.ref q47, .int 0])), (q47, .inl (cA48, 8, .inl (fun _ => 0))), (q51, .inr (7, [.null, .null, .null, .null, .int 0, .int 0, .int 0]))] := hD
                      refine W.widen (k := 55 + 9 * (ir - 0) + 1) (n := 9673 + 47 * (ir - 0) + 7) (by omega) (by omega) ?_
                      refine lv_dup hx hb d_Leastcode_init_209 rfl ?_
                      have hPc : va_P (dC, dI) classes [(q51, .inr (7, [.null, .null, .null, .null, .int 0, .int 0, .int 0]))] _ := hP.sub (ws' := [(q51, .inr (7, [.null, .null, .null, .null, .int 0, .int 0, .int 0]))]) [8] rfl
                      have hKc : va_K (dC, dI) classes [] s := hK.sub (tys' := []) [] rfl
                      have hDc : va_D _ [(q51, .inr (7, [.null, .null, .null, .null, .int 0, .int 0, .int 0]))] := hD.sub (ws' := [(q51, .inr (7, [.null, .null, .null, .null, .int 0, .int 0, .int 0]))]) [8] (by decide) rfl
                      have hFc := va_free (wc := [(q51, .inr (7, [.null, .null, .null, .null, .int 0, .int 0, .int 0]))]) hD hS hA [8] rfl
                      refine va_callv (va_runIN (As := []) (rest := [.ref q51, .int xr, .ref q24]) ⟨hx, hb, hml, hown, hts⟩ (c_Rule_init l dC dI q51 H.size) ⟨va_cnB 0 hts g_Leastcode_init_210 rfl rfl rfl hE14 (hts (.initialized "Leastcode$Rule") (List.mem_of_getElem? (i := 184) rfl)) (by decide +kernel) ⟨Nat.le_of_ble_eq_true rfl, Nat.le_of_ble_eq_true rfl⟩, rfl, (hts (.instanceMethod ⟨"Leastcode$Rule", "<init>", "()V"⟩) (List.mem_of_getElem? (i := 192) rfl))⟩ ⟨fun a U g mk z => by obtain ⟨z0, z1, zP, zK, zD, zE0⟩ := z; exact ⟨z0, z1, zP, va_K.moved (u := U) (U := U.calling g mk a) (Vm.Alike.refl U.vm) zK, zD, va_Nw.same rfl (u := U) (U := U.calling g mk a) rfl zE0⟩, fun U hU hW => ⟨rfl, by rw [hU], by rw [hU]; exact hPc, va_K.moved hW.alike hKc, hDc.weaken (fun _ _ _ _ => trivial), va_Nw.warmM hW hE15⟩⟩ rfl rfl hl.1 rfl (lv_room (Nat.le_of_ble_eq_true rfl)) d_Leastcode_init_210 ⟨(show 55 + 9 * (ir - 0) + 1 + 8 ≤ 127 by omega), (show 9673 + 47 * (ir - 0) + 7 + 40 ≤ 10049 by omega)⟩) hS (fun q _ h => hFc q h) hFc (fun u t H1 locs ht hvm hr52 hB hz1 hk1 hS => ?_)
                      obtain ⟨qa53, qb54, qc55, qd56, hP1, hK1, hD1⟩ := hB
                      rw [ht] at hP1
                      have hK1 := va_K.moved hvm.symm hK1
                      obtain ⟨hP, hD⟩ := va_join (wr := [(h0, .inr (0, [.ref q1, .ref q12, .ref q15, .ref q17, .ref q20, .int 0, .ref q22, .int 0, .ref q24, .int 0, .ref q26, .ref q28, .ref q30, .int 0, .ref q34, .ref q38, .ref q42])), (q1, .inr (1, [.ref qn3, .ref qa4, .ref qb5, .ref qc6, .ref qd7, .ref qe8, .ref qf9])), (qn3, .inl (cA10, 6016, .inl (f11))), (q20, .inl (cA21, 8, .inr (.inr (.inr (.inr (fp)))))), (q22, .inl (cA23, 6, .inr (.inr (.inr (.inr (fg)))))), (q24, .inl (cA25, 8, .inr (.inr (.inr (.inr (fr)))))), (q45, .inr (2, [.ref q47, .int 0])), (q47, .inl (cA48, 8, .inl (fun _ => 0)))]) (w1 := [(q51, .inr (7, [.ref qa53, .ref qb54, .ref qc55, .ref qd56, .int 0, .int 0, .int 0]))]) hP hD [8] [0, 1, 2, 3, 4, 5, 6, 7] rfl rfl (by decide) (by decide) hk1 hFc hP1 hD1
                      clear hPc hDc hKc hFc hP1 hD1 hK1 hk1
                      generalize H1 = H at hP hS ⊢
                      have hP : va_P (dC, dI) classes [(h0, .inr (0, [.ref q1, .ref q12, .ref q15, .ref q17, .ref q20, .int 0, .ref q22, .int 0, .ref q24, .int 0, .ref q26, .ref q28, .ref q30, .int 0, .ref q34, .ref q38, .ref q42])), (q1, .inr (1, [.ref qn3, .ref qa4, .ref qb5, .ref qc6, .ref qd7, .ref qe8, .ref qf9])), (qn3, .inl (cA10, 6016, .inl (f11))), (q20, .inl (cA21, 8, .inr (.inr (.inr (.inr (fp)))))), (q22, .inl (cA23, 6, .inr (.inr (.inr (.inr (fg)))))), (q24, .inl (cA25, 8, .inr (.inr (.inr (.inr (fr)))))), (q45, .inr (2, [.ref q47, .int 0])), (q47, .inl (cA48, 8, .inl (fun _ => 0))), (q51, .inr (7, [.ref qa53, .ref qb54, .ref qc55, .ref qd56, .int 0, .int 0, .int 0]))] H := hP
                      have hD : va_D A [(h0, .inr (0, [.ref q1, .ref q12, .ref q15, .ref q17, .ref q20, .int 0, .ref q22, .int 0, .ref q24, .int 0, .ref q26, .ref q28, .ref q30, .int 0, .ref q34, .ref q38, .ref q42])), (q1, .inr (1, [.ref qn3, .ref qa4, .ref qb5, .ref qc6, .ref qd7, .ref qe8, .ref qf9])), (qn3, .inl (cA10, 6016, .inl (f11))), (q20, .inl (cA21, 8, .inr (.inr (.inr (.inr (fp)))))), (q22, .inl (cA23, 6, .inr (.inr (.inr (.inr (fg)))))), (q24, .inl (cA25, 8, .inr (.inr (.inr (.inr (fr)))))), (q45, .inr (2, [.ref q47, .int 0])), (q47, .inl (cA48, 8, .inl (fun _ => 0))), (q51, .inr (7, [.ref qa53, .ref qb54, .ref qc55, .ref qd56, .int 0, .int 0, .int 0]))] := hD
                      refine W.widen (k := 55 + 9 * (ir - 0) + 1 + 8) (n := 9673 + 47 * (ir - 0) + 7 + 40) (by omega) (by omega) ?_
                      refine va_astq (D := (dC, dI)) hx hb hK hP hD hS 5 3 8 7 rfl rfl rfl rfl (by rw [ex0r]; exact vp_in_nI (by omega) (by omega)) d_Leastcode_init_213 (fun H locs hP hD hS => ?_)
                      have hP : va_P (dC, dI) classes [(h0, .inr (0, [.ref q1, .ref q12, .ref q15, .ref q17, .ref q20, .int 0, .ref q22, .int 0, .ref q24, .int 0, .ref q26, .ref q28, .ref q30, .int 0, .ref q34, .ref q38, .ref q42])), (q1, .inr (1, [.ref qn3, .ref qa4, .ref qb5, .ref qc6, .ref qd7, .ref qe8, .ref qf9])), (qn3, .inl (cA10, 6016, .inl (f11))), (q20, .inl (cA21, 8, .inr (.inr (.inr (.inr (fp)))))), (q22, .inl (cA23, 6, .inr (.inr (.inr (.inr (fg)))))), (q24, .inl (cA25, 8, .inr (.inr (.inr (.inr (va_up fr (xr : Int32).toNatClampNeg (some q51))))))), (q45, .inr (2, [.ref q47, .int 0])), (q47, .inl (cA48, 8, .inl (fun _ => 0))), (q51, .inr (7, [.ref qa53, .ref qb54, .ref qc55, .ref qd56, .int 0, .int 0, .int 0]))] H := hP
                      have hD : va_D A [(h0, .inr (0, [.ref q1, .ref q12, .ref q15, .ref q17, .ref q20, .int 0, .ref q22, .int 0, .ref q24, .int 0, .ref q26, .ref q28, .ref q30, .int 0, .ref q34, .ref q38, .ref q42])), (q1, .inr (1, [.ref qn3, .ref qa4, .ref qb5, .ref qc6, .ref qd7, .ref qe8, .ref qf9])), (qn3, .inl (cA10, 6016, .inl (f11))), (q20, .inl (cA21, 8, .inr (.inr (.inr (.inr (fp)))))), (q22, .inl (cA23, 6, .inr (.inr (.inr (.inr (fg)))))), (q24, .inl (cA25, 8, .inr (.inr (.inr (.inr (va_up fr (xr : Int32).toNatClampNeg (some q51))))))), (q45, .inr (2, [.ref q47, .int 0])), (q47, .inl (cA48, 8, .inl (fun _ => 0))), (q51, .inr (7, [.ref qa53, .ref qb54, .ref qc55, .ref qd56, .int 0, .int 0, .int 0]))] := hD
                      obtain ⟨f57, ef57⟩ : ∃ z : Nat → Option Nat, z = va_up fr (xr : Int32).toNatClampNeg (some q51) := ⟨_, rfl⟩
                      rw [← ef57] at hP hD
                      obtain ⟨x58, ex58⟩ : ∃ y : Int32, y = xr + 1 := ⟨_, rfl⟩
                      refine lv_iinc (v := x58) (lv' := [(1, .int x58), (0, .ref h0)]) hx hb d_Leastcode_init_214 hl (k := 0) rfl (by rw [ex58]; rfl) (by decide) rfl (fun ls hl => ?_)
                      refine lv_goto (tgt := 195) hx hb d_Leastcode_init_217 (by decide) ?_
                      refine W.widen (k := 55 + 9 * (ir + 1 - 0)) (n := 9673 + 47 * (ir + 1 - 0)) (by omega) (by omega) ?_
                      exact ihr (ir + 1) (by omega) _ _ f57 _ x58 (by rw [ex58, ex0r]; exact nI_1 ir) (by omega) (hP.sub [0, 1, 2, 3, 4, 5, 6, 7] rfl) (hD.sub [0, 1, 2, 3, 4, 5, 6, 7] (by decide) rfl) hS (lv_sub hl [0, 1] rfl)
                refine W.widen (k := 55 + 9 * (0 - 0)) (n := 9673 + 47 * (0 - 0)) (by omega) (by omega) ?_
                exact loopr 8 0 rfl _ _ (fun _ => none) _ _ nI_0.symm (by omega) (hP.sub [0, 1, 2, 3, 4, 5, 6, 7] rfl) (hD.sub [0, 1, 2, 3, 4, 5, 6, 7] (by decide) rfl) hS (lv_sub hl [0, 1] rfl)
              · exact absurd (by rw [ex0g]; exact (show nI 6 ≤ nI 6 from nI_le (Nat.le_refl 6) (by omega))) c_171
            | succ kg ihg =>
              intro ig hig H locs fg ls xg ex0g hi1g hP hD hS hl
              have hltg : ig < 6 := by omega
              refine lv_iload_n hx hb d_Leastcode_init_168 rfl (lv_at hl 0 rfl) ?_
              refine lv_bipush (v := 6) hx hb d_Leastcode_init_169 (by decide) ?_
              refine lv_icmp_ge (tgt := 193) hx hb d_Leastcode_init_171 (by decide) (fun c_171 => ?_) (fun c_171 => ?_)
              · exact absurd c_171 (by rw [ex0g]; exact (show ¬ nI 6 ≤ nI ig from nI_ge hltg (by omega)))
              · skip
                refine lv_aload_n hx hb d_Leastcode_init_174 rfl (lv_at hl 1 rfl) ?_
                refine va_get (D := (dC, dI)) (ci := 0) (v := .ref q22) (C := R_LC) (T := T_LC) (N := 17) hx hb hts in_Leastcode_init_LC hown hK hP 0 rfl rfl 6 (by decide) (hts (.fieldLink "Leastcode" 47 "Leastcode" "goals" "[LLeastcode$Goal;") (List.mem_of_getElem? (i := 159) rfl)) (fun _ h9 => h9) rfl d_Leastcode_init_175 ?_
                refine lv_iload_n hx hb d_Leastcode_init_178 rfl (lv_at hl 0 rfl) ?_
                refine va_new (D := (dC, dI)) (ci := 6) (fs := [.null, .int 0]) (C := R_GO) (T := T_GO) (N := 2) hx hb hts in_Leastcode_init_GO t_GO t_GO_ok hown (hts (.classLink "Leastcode" 45 "Leastcode$Goal") (List.mem_of_getElem? (i := 158) rfl)) (hts (.instantiable "Leastcode$Goal" 2) (List.mem_of_getElem? (i := 169) rfl)) (hts (.initialized "Leastcode$Goal") (List.mem_of_getElem? (i := 170) rfl)) hK hP hD hS hA rfl (fun j hj => by rcases (show j = 0 ∨ j = 1 by omega) with rfl | rfl <;> rfl) (show 43 + 2 * (ig - 0) + 1 ≤ 127 by omega) (show 8893 + 130 * (ig - 0) + 2 ≤ 10049 by omega) d_Leastcode_init_179 (fun q59 H hP hD hS => ?_)
                have hP : va_P (dC, dI) classes [(h0, .inr (0, [.ref q1, .ref q12, .ref q15, .ref q17, .ref q20, .int 0, .ref q22, .int 0, .ref q24, .int 0, .ref q26, .ref q28, .ref q30, .int 0, .ref q34, .ref q38, .ref q42])), (q1, .inr (1, [.ref qn3, .ref qa4, .ref qb5, .ref qc6, .ref qd7, .ref qe8, .ref qf9])), (qn3, .inl (cA10, 6016, .inl (f11))), (q20, .inl (cA21, 8, .inr (.inr (.inr (.inr (fp)))))), (q22, .inl (cA23, 6, .inr (.inr (.inr (.inr (fg)))))), (q24, .inl (cA25, 8, .inr (.inr (.inr (.inr (fun _ => none)))))), (q45, .inr (2, [.ref q47, .int 0])), (q47, .inl (cA48, 8, .inl (fun _ => 0))), (q59, .inr (6, [.null, .int 0]))] H := hP
                have hD : va_D A [(h0, .inr (0, [.ref q1, .ref q12, .ref q15, .ref q17, .ref q20, .int 0, .ref q22, .int 0, .ref q24, .int 0, .ref q26, .ref q28, .ref q30, .int 0, .ref q34, .ref q38, .ref q42])), (q1, .inr (1, [.ref qn3, .ref qa4, .ref qb5, .ref qc6, .ref qd7, .ref qe8, .ref qf9])), (qn3, .inl (cA10, 6016, .inl (f11))), (q20, .inl (cA21, 8, .inr (.inr (.inr (.inr (fp)))))), (q22, .inl (cA23, 6, .inr (.inr (.inr (.inr (fg)))))), (q24, .inl (cA25, 8, .inr (.inr (.inr (.inr (fun _ => none)))))), (q45, .inr (2, [.ref q47, .int 0])), (q47, .inl (cA48, 8, .inl (fun _ => 0))), (q59, .inr (6, [.null, .int 0]))] := hD
                refine W.widen (k := 43 + 2 * (ig - 0) + 1) (n := 8893 + 130 * (ig - 0) + 2) (by omega) (by omega) ?_
                refine lv_dup hx hb d_Leastcode_init_182 rfl ?_
                have hPc : va_P (dC, dI) classes [(q59, .inr (6, [.null, .int 0]))] _ := hP.sub (ws' := [(q59, .inr (6, [.null, .int 0]))]) [8] rfl
                have hKc : va_K (dC, dI) classes [] s := hK.sub (tys' := []) [] rfl
                have hDc : va_D _ [(q59, .inr (6, [.null, .int 0]))] := hD.sub (ws' := [(q59, .inr (6, [.null, .int 0]))]) [8] (by decide) rfl
                have hFc := va_free (wc := [(q59, .inr (6, [.null, .int 0]))]) hD hS hA [8] rfl
                refine va_callv (va_runIN (As := []) (rest := [.ref q59, .int xg, .ref q22]) ⟨hx, hb, hml, hown, hts⟩ (c_Goal_init l dC dI q59 H.size) ⟨va_cnB 0 hts g_Leastcode_init_183 rfl rfl rfl hE13 (hts (.initialized "Leastcode$Goal") (List.mem_of_getElem? (i := 170) rfl)) (by decide +kernel) ⟨Nat.le_of_ble_eq_true rfl, Nat.le_of_ble_eq_true rfl⟩, rfl, (hts (.instanceMethod ⟨"Leastcode$Goal", "<init>", "()V"⟩) (List.mem_of_getElem? (i := 174) rfl))⟩ ⟨fun a U g mk z => by obtain ⟨z0, z1, zP, zK, zD⟩ := z; exact ⟨z0, z1, zP, va_K.moved (u := U) (U := U.calling g mk a) (Vm.Alike.refl U.vm) zK, zD⟩, fun U hU hW => ⟨rfl, by rw [hU], by rw [hU]; exact hPc, va_K.moved hW.alike hKc, hDc.weaken (fun _ _ _ _ => trivial)⟩⟩ rfl rfl hl.1 rfl (lv_room (Nat.le_of_ble_eq_true rfl)) d_Leastcode_init_183 ⟨(show 43 + 2 * (ig - 0) + 1 + 1 ≤ 127 by omega), (show 8893 + 130 * (ig - 0) + 2 + 128 ≤ 10049 by omega)⟩) hS (fun q _ h => hFc q h) hFc (fun u t H1 locs ht hvm hr60 hB hz1 hk1 hS => ?_)
                obtain ⟨q61, hP1, hK1, hD1⟩ := hB
                rw [ht] at hP1
                have hK1 := va_K.moved hvm.symm hK1
                obtain ⟨hP, hD⟩ := va_join (wr := [(h0, .inr (0, [.ref q1, .ref q12, .ref q15, .ref q17, .ref q20, .int 0, .ref q22, .int 0, .ref q24, .int 0, .ref q26, .ref q28, .ref q30, .int 0, .ref q34, .ref q38, .ref q42])), (q1, .inr (1, [.ref qn3, .ref qa4, .ref qb5, .ref qc6, .ref qd7, .ref qe8, .ref qf9])), (qn3, .inl (cA10, 6016, .inl (f11))), (q20, .inl (cA21, 8, .inr (.inr (.inr (.inr (fp)))))), (q22, .inl (cA23, 6, .inr (.inr (.inr (.inr (fg)))))), (q24, .inl (cA25, 8, .inr (.inr (.inr (.inr (fun _ => none)))))), (q45, .inr (2, [.ref q47, .int 0])), (q47, .inl (cA48, 8, .inl (fun _ => 0)))]) (w1 := [(q59, .inr (6, [.ref q61, .int 0]))]) hP hD [8] [0, 1, 2, 3, 4, 5, 6, 7] rfl rfl (by decide) (by decide) hk1 hFc hP1 hD1
                clear hPc hDc hKc hFc hP1 hD1 hK1 hk1
                generalize H1 = H at hP hS ⊢
                have hP : va_P (dC, dI) classes [(h0, .inr (0, [.ref q1, .ref q12, .ref q15, .ref q17, .ref q20, .int 0, .ref q22, .int 0, .ref q24, .int 0, .ref q26, .ref q28, .ref q30, .int 0, .ref q34, .ref q38, .ref q42])), (q1, .inr (1, [.ref qn3, .ref qa4, .ref qb5, .ref qc6, .ref qd7, .ref qe8, .ref qf9])), (qn3, .inl (cA10, 6016, .inl (f11))), (q20, .inl (cA21, 8, .inr (.inr (.inr (.inr (fp)))))), (q22, .inl (cA23, 6, .inr (.inr (.inr (.inr (fg)))))), (q24, .inl (cA25, 8, .inr (.inr (.inr (.inr (fun _ => none)))))), (q45, .inr (2, [.ref q47, .int 0])), (q47, .inl (cA48, 8, .inl (fun _ => 0))), (q59, .inr (6, [.ref q61, .int 0]))] H := hP
                have hD : va_D A [(h0, .inr (0, [.ref q1, .ref q12, .ref q15, .ref q17, .ref q20, .int 0, .ref q22, .int 0, .ref q24, .int 0, .ref q26, .ref q28, .ref q30, .int 0, .ref q34, .ref q38, .ref q42])), (q1, .inr (1, [.ref qn3, .ref qa4, .ref qb5, .ref qc6, .ref qd7, .ref qe8, .ref qf9])), (qn3, .inl (cA10, 6016, .inl (f11))), (q20, .inl (cA21, 8, .inr (.inr (.inr (.inr (fp)))))), (q22, .inl (cA23, 6, .inr (.inr (.inr (.inr (fg)))))), (q24, .inl (cA25, 8, .inr (.inr (.inr (.inr (fun _ => none)))))), (q45, .inr (2, [.ref q47, .int 0])), (q47, .inl (cA48, 8, .inl (fun _ => 0))), (q59, .inr (6, [.ref q61, .int 0]))] := hD
                refine W.widen (k := 43 + 2 * (ig - 0) + 1 + 1) (n := 8893 + 130 * (ig - 0) + 2 + 128) (by omega) (by omega) ?_
                refine va_astq (D := (dC, dI)) hx hb hK hP hD hS 4 2 8 6 rfl rfl rfl rfl (by rw [ex0g]; exact vp_in_nI (by omega) (by omega)) d_Leastcode_init_186 (fun H locs hP hD hS => ?_)
                have hP : va_P (dC, dI) classes [(h0, .inr (0, [.ref q1, .ref q12, .ref q15, .ref q17, .ref q20, .int 0, .ref q22, .int 0, .ref q24, .int 0, .ref q26, .ref q28, .ref q30, .int 0, .ref q34, .ref q38, .ref q42])), (q1, .inr (1, [.ref qn3, .ref qa4, .ref qb5, .ref qc6, .ref qd7, .ref qe8, .ref qf9])), (qn3, .inl (cA10, 6016, .inl (f11))), (q20, .inl (cA21, 8, .inr (.inr (.inr (.inr (fp)))))), (q22, .inl (cA23, 6, .inr (.inr (.inr (.inr (va_up fg (xg : Int32).toNatClampNeg (some q59))))))), (q24, .inl (cA25, 8, .inr (.inr (.inr (.inr (fun _ => none)))))), (q45, .inr (2, [.ref q47, .int 0])), (q47, .inl (cA48, 8, .inl (fun _ => 0))), (q59, .inr (6, [.ref q61, .int 0]))] H := hP
                have hD : va_D A [(h0, .inr (0, [.ref q1, .ref q12, .ref q15, .ref q17, .ref q20, .int 0, .ref q22, .int 0, .ref q24, .int 0, .ref q26, .ref q28, .ref q30, .int 0, .ref q34, .ref q38, .ref q42])), (q1, .inr (1, [.ref qn3, .ref qa4, .ref qb5, .ref qc6, .ref qd7, .ref qe8, .ref qf9])), (qn3, .inl (cA10, 6016, .inl (f11))), (q20, .inl (cA21, 8, .inr (.inr (.inr (.inr (fp)))))), (q22, .inl (cA23, 6, .inr (.inr (.inr (.inr (va_up fg (xg : Int32).toNatClampNeg (some q59))))))), (q24, .inl (cA25, 8, .inr (.inr (.inr (.inr (fun _ => none)))))), (q45, .inr (2, [.ref q47, .int 0])), (q47, .inl (cA48, 8, .inl (fun _ => 0))), (q59, .inr (6, [.ref q61, .int 0]))] := hD
                obtain ⟨f62, ef62⟩ : ∃ z : Nat → Option Nat, z = va_up fg (xg : Int32).toNatClampNeg (some q59) := ⟨_, rfl⟩
                rw [← ef62] at hP hD
                obtain ⟨x63, ex63⟩ : ∃ y : Int32, y = xg + 1 := ⟨_, rfl⟩
                refine lv_iinc (v := x63) (lv' := [(1, .int x63), (0, .ref h0)]) hx hb d_Leastcode_init_187 hl (k := 0) rfl (by rw [ex63]; rfl) (by decide) rfl (fun ls hl => ?_)
                refine lv_goto (tgt := 168) hx hb d_Leastcode_init_190 (by decide) ?_
                refine W.widen (k := 43 + 2 * (ig + 1 - 0)) (n := 8893 + 130 * (ig + 1 - 0)) (by omega) (by omega) ?_
                exact ihg (ig + 1) (by omega) _ _ f62 _ x63 (by rw [ex63, ex0g]; exact nI_1 ig) (by omega) (hP.sub [0, 1, 2, 3, 4, 5, 6, 7] rfl) (hD.sub [0, 1, 2, 3, 4, 5, 6, 7] (by decide) rfl) hS (lv_sub hl [0, 1] rfl)
          refine W.widen (k := 43 + 2 * (0 - 0)) (n := 8893 + 130 * (0 - 0)) (by omega) (by omega) ?_
          exact loopg 6 0 rfl _ _ (fun _ => none) _ _ nI_0.symm (by omega) (hP.sub [0, 1, 2, 3, 4, 5, 6, 7] rfl) (hD.sub [0, 1, 2, 3, 4, 5, 6, 7] (by decide) rfl) hS (lv_sub hl [0, 1] rfl)
        · exact absurd (by rw [ex0p]; exact (show nI 8 ≤ nI 8 from nI_le (Nat.le_refl 8) (by omega))) c_144
      | succ kp ihp =>
        intro ip hip H locs fp ls xp ex0p hi1p hf0p hP hD hS hl
        have hltp : ip < 8 := by omega
        refine lv_iload_n hx hb d_Leastcode_init_141 rfl (lv_at hl 0 rfl) ?_
        refine lv_bipush (v := 8) hx hb d_Leastcode_init_142 (by decide) ?_
        refine lv_icmp_ge (tgt := 166) hx hb d_Leastcode_init_144 (by decide) (fun c_144 => ?_) (fun c_144 => ?_)
        · exact absurd c_144 (by rw [ex0p]; exact (show ¬ nI 8 ≤ nI ip from nI_ge hltp (by omega)))
        · skip
          refine lv_aload_n hx hb d_Leastcode_init_147 rfl (lv_at hl 1 rfl) ?_
          refine va_get (D := (dC, dI)) (ci := 0) (v := .ref q20) (C := R_LC) (T := T_LC) (N := 17) hx hb hts in_Leastcode_init_LC hown hK hP 0 rfl rfl 4 (by decide) (hts (.fieldLink "Leastcode" 41 "Leastcode" "programs" "[LLeastcode$Code;") (List.mem_of_getElem? (i := 157) rfl)) (fun _ h9 => h9) rfl d_Leastcode_init_148 ?_
          refine lv_iload_n hx hb d_Leastcode_init_151 rfl (lv_at hl 0 rfl) ?_
          refine va_new (D := (dC, dI)) (ci := 2) (fs := [.null, .int 0]) (C := R_CO) (T := T_CO) (N := 2) hx hb hts in_Leastcode_init_CO t_CO t_CO_ok hown (hts (.classLink "Leastcode" 39 "Leastcode$Code") (List.mem_of_getElem? (i := 156) rfl)) (hts (.instantiable "Leastcode$Code" 2) (List.mem_of_getElem? (i := 145) rfl)) (hts (.initialized "Leastcode$Code") (List.mem_of_getElem? (i := 146) rfl)) hK hP hD hS hA rfl (fun j hj => by rcases (show j = 0 ∨ j = 1 by omega) with rfl | rfl <;> rfl) (show 29 + 2 * (ip - 1) + 1 ≤ 127 by omega) (show 8823 + 10 * (ip - 1) + 2 ≤ 10049 by omega) d_Leastcode_init_152 (fun q64 H hP hD hS => ?_)
          have hP : va_P (dC, dI) classes [(h0, .inr (0, [.ref q1, .ref q12, .ref q15, .ref q17, .ref q20, .int 0, .ref q22, .int 0, .ref q24, .int 0, .ref q26, .ref q28, .ref q30, .int 0, .ref q34, .ref q38, .ref q42])), (q1, .inr (1, [.ref qn3, .ref qa4, .ref qb5, .ref qc6, .ref qd7, .ref qe8, .ref qf9])), (qn3, .inl (cA10, 6016, .inl (f11))), (q20, .inl (cA21, 8, .inr (.inr (.inr (.inr (fp)))))), (q22, .inl (cA23, 6, .inr (.inr (.inr (.inr (fun _ => none)))))), (q24, .inl (cA25, 8, .inr (.inr (.inr (.inr (fun _ => none)))))), (q45, .inr (2, [.ref q47, .int 0])), (q47, .inl (cA48, 8, .inl (fun _ => 0))), (q64, .inr (2, [.null, .int 0]))] H := hP
          have hD : va_D A [(h0, .inr (0, [.ref q1, .ref q12, .ref q15, .ref q17, .ref q20, .int 0, .ref q22, .int 0, .ref q24, .int 0, .ref q26, .ref q28, .ref q30, .int 0, .ref q34, .ref q38, .ref q42])), (q1, .inr (1, [.ref qn3, .ref qa4, .ref qb5, .ref qc6, .ref qd7, .ref qe8, .ref qf9])), (qn3, .inl (cA10, 6016, .inl (f11))), (q20, .inl (cA21, 8, .inr (.inr (.inr (.inr (fp)))))), (q22, .inl (cA23, 6, .inr (.inr (.inr (.inr (fun _ => none)))))), (q24, .inl (cA25, 8, .inr (.inr (.inr (.inr (fun _ => none)))))), (q45, .inr (2, [.ref q47, .int 0])), (q47, .inl (cA48, 8, .inl (fun _ => 0))), (q64, .inr (2, [.null, .int 0]))] := hD
          refine W.widen (k := 29 + 2 * (ip - 1) + 1) (n := 8823 + 10 * (ip - 1) + 2) (by omega) (by omega) ?_
          refine lv_dup hx hb d_Leastcode_init_155 rfl ?_
          have hPc : va_P (dC, dI) classes [(q64, .inr (2, [.null, .int 0]))] _ := hP.sub (ws' := [(q64, .inr (2, [.null, .int 0]))]) [8] rfl
          have hKc : va_K (dC, dI) classes [] s := hK.sub (tys' := []) [] rfl
          have hDc : va_D _ [(q64, .inr (2, [.null, .int 0]))] := hD.sub (ws' := [(q64, .inr (2, [.null, .int 0]))]) [8] (by decide) rfl
          have hFc := va_free (wc := [(q64, .inr (2, [.null, .int 0]))]) hD hS hA [8] rfl
          refine va_callv (va_runIN (As := []) (rest := [.ref q64, .int xp, .ref q20]) ⟨hx, hb, hml, hown, hts⟩ (c_Code_init l dC dI q64 H.size) ⟨va_cnB 0 hts g_Leastcode_init_156 rfl rfl rfl hE12 (hts (.initialized "Leastcode$Code") (List.mem_of_getElem? (i := 146) rfl)) (by decide +kernel) ⟨Nat.le_of_ble_eq_true rfl, Nat.le_of_ble_eq_true rfl⟩, rfl, (hts (.instanceMethod ⟨"Leastcode$Code", "<init>", "()V"⟩) (List.mem_of_getElem? (i := 150) rfl))⟩ ⟨fun a U g mk z => by obtain ⟨z0, z1, zP, zK, zD⟩ := z; exact ⟨z0, z1, zP, va_K.moved (u := U) (U := U.calling g mk a) (Vm.Alike.refl U.vm) zK, zD⟩, fun U hU hW => ⟨rfl, by rw [hU], by rw [hU]; exact hPc, va_K.moved hW.alike hKc, hDc.weaken (fun _ _ _ _ => trivial)⟩⟩ rfl rfl hl.1 rfl (lv_room (Nat.le_of_ble_eq_true rfl)) d_Leastcode_init_156 ⟨(show 29 + 2 * (ip - 1) + 1 + 1 ≤ 127 by omega), (show 8823 + 10 * (ip - 1) + 2 + 8 ≤ 10049 by omega)⟩) hS (fun q _ h => hFc q h) hFc (fun u t H1 locs ht hvm hr65 hB hz1 hk1 hS => ?_)
          obtain ⟨q66, cA67, hP1, hK1, hD1⟩ := hB
          rw [ht] at hP1
          have hK1 := va_K.moved hvm.symm hK1
          obtain ⟨hP, hD⟩ := va_join (wr := [(h0, .inr (0, [.ref q1, .ref q12, .ref q15, .ref q17, .ref q20, .int 0, .ref q22, .int 0, .ref q24, .int 0, .ref q26, .ref q28, .ref q30, .int 0, .ref q34, .ref q38, .ref q42])), (q1, .inr (1, [.ref qn3, .ref qa4, .ref qb5, .ref qc6, .ref qd7, .ref qe8, .ref qf9])), (qn3, .inl (cA10, 6016, .inl (f11))), (q20, .inl (cA21, 8, .inr (.inr (.inr (.inr (fp)))))), (q22, .inl (cA23, 6, .inr (.inr (.inr (.inr (fun _ => none)))))), (q24, .inl (cA25, 8, .inr (.inr (.inr (.inr (fun _ => none)))))), (q45, .inr (2, [.ref q47, .int 0])), (q47, .inl (cA48, 8, .inl (fun _ => 0)))]) (w1 := [(q64, .inr (2, [.ref q66, .int 0])), (q66, .inl (cA67, 8, .inl (fun _ => 0)))]) hP hD [8] [0, 1, 2, 3, 4, 5, 6, 7] rfl rfl (by decide) (by decide) hk1 hFc hP1 hD1
          have hK := hK.app (hK1.sub (tys' := [(cA67, .int)]) [0] rfl)
          have hK : va_K (dC, dI) classes [(cA10, .int), (cA21, .object "Leastcode$Code"), (cA23, .object "Leastcode$Goal"), (cA25, .object "Leastcode$Rule"), (cA48, .int), (cA67, .int)] s := hK
          clear hPc hDc hKc hFc hP1 hD1 hK1 hk1
          generalize H1 = H at hP hS ⊢
          have hP : va_P (dC, dI) classes [(h0, .inr (0, [.ref q1, .ref q12, .ref q15, .ref q17, .ref q20, .int 0, .ref q22, .int 0, .ref q24, .int 0, .ref q26, .ref q28, .ref q30, .int 0, .ref q34, .ref q38, .ref q42])), (q1, .inr (1, [.ref qn3, .ref qa4, .ref qb5, .ref qc6, .ref qd7, .ref qe8, .ref qf9])), (qn3, .inl (cA10, 6016, .inl (f11))), (q20, .inl (cA21, 8, .inr (.inr (.inr (.inr (fp)))))), (q22, .inl (cA23, 6, .inr (.inr (.inr (.inr (fun _ => none)))))), (q24, .inl (cA25, 8, .inr (.inr (.inr (.inr (fun _ => none)))))), (q45, .inr (2, [.ref q47, .int 0])), (q47, .inl (cA48, 8, .inl (fun _ => 0))), (q64, .inr (2, [.ref q66, .int 0])), (q66, .inl (cA67, 8, .inl (fun _ => 0)))] H := hP
          have hD : va_D A [(h0, .inr (0, [.ref q1, .ref q12, .ref q15, .ref q17, .ref q20, .int 0, .ref q22, .int 0, .ref q24, .int 0, .ref q26, .ref q28, .ref q30, .int 0, .ref q34, .ref q38, .ref q42])), (q1, .inr (1, [.ref qn3, .ref qa4, .ref qb5, .ref qc6, .ref qd7, .ref qe8, .ref qf9])), (qn3, .inl (cA10, 6016, .inl (f11))), (q20, .inl (cA21, 8, .inr (.inr (.inr (.inr (fp)))))), (q22, .inl (cA23, 6, .inr (.inr (.inr (.inr (fun _ => none)))))), (q24, .inl (cA25, 8, .inr (.inr (.inr (.inr (fun _ => none)))))), (q45, .inr (2, [.ref q47, .int 0])), (q47, .inl (cA48, 8, .inl (fun _ => 0))), (q64, .inr (2, [.ref q66, .int 0])), (q66, .inl (cA67, 8, .inl (fun _ => 0)))] := hD
          refine W.widen (k := 29 + 2 * (ip - 1) + 1 + 1) (n := 8823 + 10 * (ip - 1) + 2 + 8) (by omega) (by omega) ?_
          refine va_astq (D := (dC, dI)) hx hb hK hP hD hS 3 1 8 2 rfl rfl rfl rfl (by rw [ex0p]; exact vp_in_nI (by omega) (by omega)) d_Leastcode_init_159 (fun H locs hP hD hS => ?_)
          have hP : va_P (dC, dI) classes [(h0, .inr (0, [.ref q1, .ref q12, .ref q15, .ref q17, .ref q20, .int 0, .ref q22, .int 0, .ref q24, .int 0, .ref q26, .ref q28, .ref q30, .int 0, .ref q34, .ref q38, .ref q42])), (q1, .inr (1, [.ref qn3, .ref qa4, .ref qb5, .ref qc6, .ref qd7, .ref qe8, .ref qf9])), (qn3, .inl (cA10, 6016, .inl (f11))), (q20, .inl (cA21, 8, .inr (.inr (.inr (.inr (va_up fp (xp : Int32).toNatClampNeg (some q64))))))), (q22, .inl (cA23, 6, .inr (.inr (.inr (.inr (fun _ => none)))))), (q24, .inl (cA25, 8, .inr (.inr (.inr (.inr (fun _ => none)))))), (q45, .inr (2, [.ref q47, .int 0])), (q47, .inl (cA48, 8, .inl (fun _ => 0))), (q64, .inr (2, [.ref q66, .int 0])), (q66, .inl (cA67, 8, .inl (fun _ => 0)))] H := hP
          have hD : va_D A [(h0, .inr (0, [.ref q1, .ref q12, .ref q15, .ref q17, .ref q20, .int 0, .ref q22, .int 0, .ref q24, .int 0, .ref q26, .ref q28, .ref q30, .int 0, .ref q34, .ref q38, .ref q42])), (q1, .inr (1, [.ref qn3, .ref qa4, .ref qb5, .ref qc6, .ref qd7, .ref qe8, .ref qf9])), (qn3, .inl (cA10, 6016, .inl (f11))), (q20, .inl (cA21, 8, .inr (.inr (.inr (.inr (va_up fp (xp : Int32).toNatClampNeg (some q64))))))), (q22, .inl (cA23, 6, .inr (.inr (.inr (.inr (fun _ => none)))))), (q24, .inl (cA25, 8, .inr (.inr (.inr (.inr (fun _ => none)))))), (q45, .inr (2, [.ref q47, .int 0])), (q47, .inl (cA48, 8, .inl (fun _ => 0))), (q64, .inr (2, [.ref q66, .int 0])), (q66, .inl (cA67, 8, .inl (fun _ => 0)))] := hD
          obtain ⟨f68, ef68⟩ : ∃ z : Nat → Option Nat, z = va_up fp (xp : Int32).toNatClampNeg (some q64) := ⟨_, rfl⟩
          rw [← ef68] at hP hD
          obtain ⟨x69, ex69⟩ : ∃ y : Int32, y = xp + 1 := ⟨_, rfl⟩
          refine lv_iinc (v := x69) (lv' := [(1, .int x69), (0, .ref h0)]) hx hb d_Leastcode_init_160 hl (k := 0) rfl (by rw [ex69]; rfl) (by decide) rfl (fun ls hl => ?_)
          refine lv_goto (tgt := 141) hx hb d_Leastcode_init_163 (by decide) ?_
          refine W.widen (k := 29 + 2 * (ip + 1 - 1)) (n := 8823 + 10 * (ip + 1 - 1)) (by omega) (by omega) ?_
          exact ihp (ip + 1) (by omega) _ _ f68 _ x69 (by rw [ex69, ex0p]; exact nI_1 ip) (by omega) (by rw [ef68]; exact (va_up_ne _ _ (by rw [ex0p, nI_clamp (by omega)]; omega)).trans hf0p) (hP.sub [0, 1, 2, 3, 4, 5, 6, 7] rfl) (hD.sub [0, 1, 2, 3, 4, 5, 6, 7] (by decide) rfl) hS (lv_sub hl [0, 1] rfl)
    refine W.widen (k := 29 + 2 * (1 - 1)) (n := 8823 + 10 * (1 - 1)) (by omega) (by omega) ?_
    exact loopp 7 1 rfl _ _ f49 _ x50 (by rw [ex50]; decide) (by omega) hf0 (hP.sub [0, 1, 2, 3, 4, 5, 6, 7] rfl) (hD.sub [0, 1, 2, 3, 4, 5, 6, 7] (by decide) rfl) hS (lv_sub hl [0, 1] rfl)
end
section
theorem ry_and0 (x : Int32) : x &&& 0 = 0 := by
  apply Int32.toBitVec_inj.mp
  simp

abbrev rm_refuseFullPrograms : Room := { frames := 0, cells := 0, slots := 0, locals := 0 }
abbrev b_refuseFullPrograms : ByteArray := prog_1_method_48_code
def y_refuseFullPrograms : MethodName := ⟨"Leastcode", "refuseFullPrograms", "()V"⟩
def w_refuseFullPrograms : List Cond := [.code ⟨"Leastcode", "refuseFullPrograms", "()V"⟩ prog_1_method_48_code 1 none, .laysFinal "Leastcode" "Leastcode" "machine" "LLeastcode$Machine;", .laysFinal "Leastcode" "Leastcode" "prices" "LLeastcode$Prices;", .laysFinal "Leastcode" "Leastcode" "lots" "LLeastcode$Lots;", .laysFinal "Leastcode" "Leastcode" "search" "LLeastcode$Search;", .laysFinal "Leastcode" "Leastcode" "programs" "[LLeastcode$Code;", .lays "Leastcode" "Leastcode" "programCount" "I", .laysFinal "Leastcode" "Leastcode" "goals" "[LLeastcode$Goal;", .lays "Leastcode" "Leastcode" "goalCount" "I", .laysFinal "Leastcode" "Leastcode" "rules" "[LLeastcode$Rule;", .lays "Leastcode" "Leastcode" "ruleCount" "I", .laysFinal "Leastcode" "Leastcode" "killed" "[I", .laysFinal "Leastcode" "Leastcode" "unlikeUpTo" "[I", .laysFinal "Leastcode" "Leastcode" "found" "LLeastcode$Code;", .lays "Leastcode" "Leastcode" "hasFound" "Z", .laysFinal "Leastcode" "Leastcode" "draft" "LLeastcode$Code;", .laysFinal "Leastcode" "Leastcode" "shorter" "LLeastcode$Code;", .laysFinal "Leastcode" "Leastcode" "windowGoal" "LLeastcode$Goal;", .fieldLink "Leastcode" 84 "Leastcode" "programCount" "I"]
theorem d_refuseFullPrograms_0 : decode b_refuseFullPrograms 0 = .ok (.aload_n 0, 1) := by decide +kernel
theorem d_refuseFullPrograms_1 : decode b_refuseFullPrograms 1 = .ok (.getfield 84, 3) := by decide +kernel
theorem d_refuseFullPrograms_4 : decode b_refuseFullPrograms 4 = .ok (.bipush 8, 2) := by decide +kernel
theorem d_refuseFullPrograms_6 : decode b_refuseFullPrograms 6 = .ok (.if_icmp .lt 14, 3) := by decide +kernel
theorem d_refuseFullPrograms_20 : decode b_refuseFullPrograms 20 = .ok (.return_, 1) := by decide +kernel
theorem in_refuseFullPrograms_LC : ∀ v ∈ u_ws R_LC T_LC 17, v ∈ w_refuseFullPrograms := by decide +kernel
set_option maxHeartbeats 4000000 in
set_option maxRecDepth 100000 in
theorem c_refuseFullPrograms (l : Launch) (dC : Nat → ClassId) (dI : Nat → Nat → Nat) (h0 : Nat) (qm : Nat) (qp : Nat) (y1 : Nat) (y2 : Nat) (y3 : Nat) (y4 : Nat) (y5 : Nat) (y6 : Nat) (y7 : Nat) (y8 : Nat) (y9 : Nat) (y10 : Nat) (y11 : Nat) : Met l y_refuseFullPrograms w_refuseFullPrograms rm_refuseFullPrograms (va_Pc [.ref h0] (fun U => va_P (dC, dI) classes [(h0, .inr (0, [.ref qm, .ref y1, .ref y2, .ref y3, .ref qp, .int 0, .ref y4, .int 0, .ref y5, .int 0, .ref y6, .ref y7, .ref y8, .int 0, .ref y9, .ref y10, .ref y11]))] U.heap ∧ va_K (dC, dI) classes [] U)) (va_Sv (fun _ => True)) 0 0 (fun _ => False) := by
  refine Met.ofW (cc := b_refuseFullPrograms) (maxL := 1) (ret := none) (by decide) rfl ?_
  intro p e s m args below meth c s₁ B hml hv
  obtain ⟨rfl, hP, hK⟩ := hv
  have hx := B.exec
  have hb := B.bytes
  have hr := B.returns
  have hts := atoms_spec (ws := w_refuseFullPrograms) B.pre
  have hown : s.vm.findClass "Leastcode" = some m.cls := findClass_of_methodNamed B.named
  have hlocks := B.notSynchronized
  have hP : va_P (dC, dI) classes [(h0, .inr (0, [.ref qm, .ref y1, .ref y2, .ref y3, .ref qp, .int 0, .ref y4, .int 0, .ref y5, .int 0, .ref y6, .ref y7, .ref y8, .int 0, .ref y9, .ref y10, .ref y11]))] s.heap := hP
  have hl := lv_entry ([.ref h0]) (n := 1) (Nat.le_of_ble_eq_true rfl)
  rw [lg_entry_eq]
  generalize (lg_sl ([.ref h0]) ++ List.replicate (1 - (lg_sl ([.ref h0])).length) Slot.unset).toArray = ls at hl ⊢
  have hl : lv_has ls 1 [(0, .ref h0)] := hl
  refine lv_aload_n hx hb d_refuseFullPrograms_0 rfl (lv_at hl 0 rfl) ?_
  refine va_get (D := (dC, dI)) (ci := 0) (v := .int 0) (C := R_LC) (T := T_LC) (N := 17) hx hb hts in_refuseFullPrograms_LC hown hK hP 0 rfl rfl 5 (by decide) (hts (.fieldLink "Leastcode" 84 "Leastcode" "programCount" "I") (List.mem_of_getElem? (i := 18) rfl)) (fun _ h9 => h9) rfl d_refuseFullPrograms_1 ?_
  refine lv_bipush (v := 8) hx hb d_refuseFullPrograms_4 (by decide) ?_
  refine lv_icmp_lt (tgt := 20) hx hb d_refuseFullPrograms_6 (by decide) (fun c_6 => ?_) (fun c_6 => ?_)
  · skip
    exact W.vret hx hb hr (fun t ht hW => ⟨rfl, trivial, ht⟩) (fun _ h => by cases h) d_refuseFullPrograms_20
  · exact absurd (by decide) c_6

abbrev rm_addProgram : Room := { frames := 1, cells := 0, slots := 0, locals := 20 }
abbrev b_addProgram : ByteArray := prog_1_method_2_code
def y_addProgram : MethodName := ⟨"Leastcode", "addProgram", "()I"⟩
def w_addProgram : List Cond := [.code ⟨"Leastcode", "addProgram", "()I"⟩ prog_1_method_2_code 2 (some .int), .methodLink "Leastcode" 81 ⟨"Leastcode", "refuseFullPrograms", "()V"⟩, .instanceMethod ⟨"Leastcode", "refuseFullPrograms", "()V"⟩, .selects "Leastcode" ⟨"Leastcode", "refuseFullPrograms", "()V"⟩ ⟨"Leastcode", "refuseFullPrograms", "()V"⟩, .initialized "Leastcode", .code ⟨"Leastcode", "refuseFullPrograms", "()V"⟩ prog_1_method_48_code 1 none, .laysFinal "Leastcode" "Leastcode" "machine" "LLeastcode$Machine;", .laysFinal "Leastcode" "Leastcode" "prices" "LLeastcode$Prices;", .laysFinal "Leastcode" "Leastcode" "lots" "LLeastcode$Lots;", .laysFinal "Leastcode" "Leastcode" "search" "LLeastcode$Search;", .laysFinal "Leastcode" "Leastcode" "programs" "[LLeastcode$Code;", .lays "Leastcode" "Leastcode" "programCount" "I", .laysFinal "Leastcode" "Leastcode" "goals" "[LLeastcode$Goal;", .lays "Leastcode" "Leastcode" "goalCount" "I", .laysFinal "Leastcode" "Leastcode" "rules" "[LLeastcode$Rule;", .lays "Leastcode" "Leastcode" "ruleCount" "I", .laysFinal "Leastcode" "Leastcode" "killed" "[I", .laysFinal "Leastcode" "Leastcode" "unlikeUpTo" "[I", .laysFinal "Leastcode" "Leastcode" "found" "LLeastcode$Code;", .lays "Leastcode" "Leastcode" "hasFound" "Z", .laysFinal "Leastcode" "Leastcode" "draft" "LLeastcode$Code;", .laysFinal "Leastcode" "Leastcode" "shorter" "LLeastcode$Code;", .laysFinal "Leastcode" "Leastcode" "windowGoal" "LLeastcode$Goal;", .fieldLink "Leastcode" 84 "Leastcode" "programCount" "I"]
theorem d_addProgram_0 : decode b_addProgram 0 = .ok (.aload_n 0, 1) := by decide +kernel
theorem d_addProgram_1 : decode b_addProgram 1 = .ok (.invokevirtual 81, 3) := by decide +kernel
theorem d_addProgram_4 : decode b_addProgram 4 = .ok (.aload_n 0, 1) := by decide +kernel
theorem d_addProgram_5 : decode b_addProgram 5 = .ok (.getfield 84, 3) := by decide +kernel
theorem d_addProgram_8 : decode b_addProgram 8 = .ok (.istore_n 1, 1) := by decide +kernel
theorem d_addProgram_9 : decode b_addProgram 9 = .ok (.aload_n 0, 1) := by decide +kernel
theorem d_addProgram_10 : decode b_addProgram 10 = .ok (.dup, 1) := by decide +kernel
theorem d_addProgram_11 : decode b_addProgram 11 = .ok (.getfield 84, 3) := by decide +kernel
theorem d_addProgram_14 : decode b_addProgram 14 = .ok (.iconst 1, 1) := by decide +kernel
theorem d_addProgram_15 : decode b_addProgram 15 = .ok (.iadd, 1) := by decide +kernel
theorem d_addProgram_16 : decode b_addProgram 16 = .ok (.putfield 84, 3) := by decide +kernel
theorem d_addProgram_19 : decode b_addProgram 19 = .ok (.iload_n 1, 1) := by decide +kernel
theorem d_addProgram_20 : decode b_addProgram 20 = .ok (.ireturn, 1) := by decide +kernel
theorem in_addProgram_LC : ∀ v ∈ u_ws R_LC T_LC 17, v ∈ w_addProgram := by decide +kernel
set_option maxRecDepth 20000 in
theorem g_addProgram_1 : GoodIn w_addProgram (wsV "Leastcode" 81 "Leastcode" ⟨"Leastcode", "refuseFullPrograms", "()V"⟩ w_refuseFullPrograms) := goodIn_r _ [1, 2, 3, 4, 5, 6, 7, 8, 9, 10, 11, 12, 13, 14, 15, 16, 17, 18, 19, 20, 21, 22, 23] rfl (by decide +kernel)
set_option maxHeartbeats 4000000 in
set_option maxRecDepth 100000 in
theorem c_addProgram (l : Launch) (dC : Nat → ClassId) (dI : Nat → Nat → Nat) (h0 : Nat) (qm : Nat) (qp : Nat) (y1 : Nat) (y2 : Nat) (y3 : Nat) (y4 : Nat) (y5 : Nat) (y6 : Nat) (y7 : Nat) (y8 : Nat) (y9 : Nat) (y10 : Nat) (y11 : Nat) (sz : Nat) : Met l y_addProgram w_addProgram rm_addProgram (va_Pc [.ref h0] (fun U => U.heap.size = sz ∧ va_P (dC, dI) classes [(h0, .inr (0, [.ref qm, .ref y1, .ref y2, .ref y3, .ref qp, .int 0, .ref y4, .int 0, .ref y5, .int 0, .ref y6, .ref y7, .ref y8, .int 0, .ref y9, .ref y10, .ref y11]))] U.heap ∧ va_K (dC, dI) classes [] U ∧ va_D (fun _ => True) [(h0, .inr (0, [.ref qm, .ref y1, .ref y2, .ref y3, .ref qp, .int 0, .ref y4, .int 0, .ref y5, .int 0, .ref y6, .ref y7, .ref y8, .int 0, .ref y9, .ref y10, .ref y11]))])) (va_Qi (fun r (_ : Unit) => r = 0) (fun _ t => va_P (dC, dI) classes [(h0, .inr (0, [.ref qm, .ref y1, .ref y2, .ref y3, .ref qp, .int 1, .ref y4, .int 0, .ref y5, .int 0, .ref y6, .ref y7, .ref y8, .int 0, .ref y9, .ref y10, .ref y11]))] t.heap ∧ va_K (dC, dI) classes [] t ∧ va_D (va_A [(h0, .inr (0, [.ref qm, .ref y1, .ref y2, .ref y3, .ref qp, .int 0, .ref y4, .int 0, .ref y5, .int 0, .ref y6, .ref y7, .ref y8, .int 0, .ref y9, .ref y10, .ref y11]))] sz) [(h0, .inr (0, [.ref qm, .ref y1, .ref y2, .ref y3, .ref qp, .int 1, .ref y4, .int 0, .ref y5, .int 0, .ref y6, .ref y7, .ref y8, .int 0, .ref y9, .ref y10, .ref y11]))]) (va_A [(h0, .inr (0, [.ref qm, .ref y1, .ref y2, .ref y3, .ref qp, .int 0, .ref y4, .int 0, .ref y5, .int 0, .ref y6, .ref y7, .ref y8, .int 0, .ref y9, .ref y10, .ref y11]))] sz)) 0 0 (va_A [(h0, .inr (0, [.ref qm, .ref y1, .ref y2, .ref y3, .ref qp, .int 0, .ref y4, .int 0, .ref y5, .int 0, .ref y6, .ref y7, .ref y8, .int 0, .ref y9, .ref y10, .ref y11]))] sz) := by
  refine Met.ofW (cc := b_addProgram) (maxL := 2) (ret := (some .int)) (by decide) rfl ?_
  intro p e s m args below meth c s₁ B hml hv
  obtain ⟨rfl, hsz, hP, hK, hD0⟩ := hv
  have hx := B.exec
  have hb := B.bytes
  have hr := B.returns
  have hts := atoms_spec (ws := w_addProgram) B.pre
  have hown : s.vm.findClass "Leastcode" = some m.cls := findClass_of_methodNamed B.named
  have hlocks := B.notSynchronized
  subst hsz
  have hD := hD0.self (sz := s.heap.size)
  generalize hAe : va_A [(h0, .inr (0, [.ref qm, .ref y1, .ref y2, .ref y3, .ref qp, .int 0, .ref y4, .int 0, .ref y5, .int 0, .ref y6, .ref y7, .ref y8, .int 0, .ref y9, .ref y10, .ref y11]))] s.heap.size = A at hD ⊢
  have hA : ∀ q : Nat, s.heap.size ≤ q → A q := fun q h => by rw [← hAe]; exact Or.inr h
  have hS : va_S A s.heap s.heap [] := va_S.rf
  have hP : va_P (dC, dI) classes [(h0, .inr (0, [.ref qm, .ref y1, .ref y2, .ref y3, .ref qp, .int 0, .ref y4, .int 0, .ref y5, .int 0, .ref y6, .ref y7, .ref y8, .int 0, .ref y9, .ref y10, .ref y11]))] s.heap := hP
  have hl := lv_entry ([.ref h0]) (n := 2) (Nat.le_of_ble_eq_true rfl)
  rw [lg_entry_eq]
  generalize (lg_sl ([.ref h0]) ++ List.replicate (2 - (lg_sl ([.ref h0])).length) Slot.unset).toArray = ls at hl ⊢
  have hl : lv_has ls 2 [(0, .ref h0)] := hl
  refine lv_aload_n hx hb d_addProgram_0 rfl (lv_at hl 0 rfl) ?_
  have hPc : va_P (dC, dI) classes [(h0, .inr (0, [.ref qm, .ref y1, .ref y2, .ref y3, .ref qp, .int 0, .ref y4, .int 0, .ref y5, .int 0, .ref y6, .ref y7, .ref y8, .int 0, .ref y9, .ref y10, .ref y11]))] _ := hP.sub (ws' := [(h0, .inr (0, [.ref qm, .ref y1, .ref y2, .ref y3, .ref qp, .int 0, .ref y4, .int 0, .ref y5, .int 0, .ref y6, .ref y7, .ref y8, .int 0, .ref y9, .ref y10, .ref y11]))]) [0] rfl
  have hKc : va_K (dC, dI) classes [] s := hK.sub (tys' := []) [] rfl
  refine va_csv (W.runV (As := []) (rest := []) ⟨hx, hb, hml, hown, hts⟩ (c_refuseFullPrograms l dC dI h0 qm qp y1 y2 y3 y4 y5 y6 y7 y8 y9 y10 y11) (cwV 0 hts g_addProgram_1 rfl rfl rfl (by decide +kernel) ⟨Nat.le_of_ble_eq_true rfl, Nat.le_of_ble_eq_true rfl⟩) ⟨fun a U g mk z => by obtain ⟨z0, zP, zK⟩ := z; exact ⟨z0, zP, va_K.moved (u := U) (U := U.calling g mk a) (Vm.Alike.refl U.vm) zK⟩, va_recv hKc hPc (ci := 0) (q0 := 0) rfl rfl, fun U hU hW => ⟨rfl, by rw [hU]; exact hPc, va_K.moved hW.alike hKc⟩⟩ rfl rfl hl.1 rfl (lv_room (Nat.le_of_ble_eq_true rfl)) d_addProgram_1 ⟨(Nat.le_of_ble_eq_true rfl), (Nat.le_of_ble_eq_true rfl)⟩) (fun hr1 => ?_)
  refine lv_aload_n hx hb d_addProgram_4 rfl (lv_at hl 0 rfl) ?_
  refine va_get (D := (dC, dI)) (ci := 0) (v := .int 0) (C := R_LC) (T := T_LC) (N := 17) hx hb hts in_addProgram_LC hown hK hP 0 rfl rfl 5 (by decide) (hts (.fieldLink "Leastcode" 84 "Leastcode" "programCount" "I") (List.mem_of_getElem? (i := 23) rfl)) (fun _ h9 => h9) rfl d_addProgram_5 ?_
  refine lv_istore_n (lv' := [(1, .int 0), (0, .ref h0)]) hx hb d_addProgram_8 rfl hl (by decide) rfl (fun ls hl => ?_)
  refine lv_aload_n hx hb d_addProgram_9 rfl (lv_at hl 1 rfl) ?_
  refine lv_dup hx hb d_addProgram_10 rfl ?_
  refine va_get (D := (dC, dI)) (ci := 0) (v := .int 0) (C := R_LC) (T := T_LC) (N := 17) hx hb hts in_addProgram_LC hown hK hP 0 rfl rfl 5 (by decide) (hts (.fieldLink "Leastcode" 84 "Leastcode" "programCount" "I") (List.mem_of_getElem? (i := 23) rfl)) (fun _ h9 => h9) rfl d_addProgram_11 ?_
  refine lv_iconst (v := 1) hx hb d_addProgram_14 (by decide) ?_
  refine lv_iadd hx hb d_addProgram_15 ?_
  refine lv_topi (fun x2 ex2 => ?_)
  obtain rfl : 1 = x2 := Eq.symm (by rw [ex2]; decide)
  refine va_put (D := (dC, dI)) (ci := 0) (v := .int 1) (ty := .int) (C := R_LC) (T := T_LC) (N := 17) hx hb hts in_addProgram_LC t_LC t_LC_ok n_LC hown hK hP hD hS 0 rfl rfl 5 (by decide) (hts (.fieldLink "Leastcode" 84 "Leastcode" "programCount" "I") (List.mem_of_getElem? (i := 23) rfl)) (fun _ h9 => h9) rfl (by decide +kernel) rfl rfl (Nat.le_of_ble_eq_true rfl) d_addProgram_16 (fun H locs hP hD hS => ?_)
  have hP : va_P (dC, dI) classes [(h0, .inr (0, [.ref qm, .ref y1, .ref y2, .ref y3, .ref qp, .int 1, .ref y4, .int 0, .ref y5, .int 0, .ref y6, .ref y7, .ref y8, .int 0, .ref y9, .ref y10, .ref y11]))] H := hP
  have hD : va_D A [(h0, .inr (0, [.ref qm, .ref y1, .ref y2, .ref y3, .ref qp, .int 1, .ref y4, .int 0, .ref y5, .int 0, .ref y6, .ref y7, .ref y8, .int 0, .ref y9, .ref y10, .ref y11]))] := hD
  refine lv_iload_n hx hb d_addProgram_19 rfl (lv_at hl 0 rfl) ?_
  have hP9 : va_P (dC, dI) classes [(h0, .inr (0, [.ref qm, .ref y1, .ref y2, .ref y3, .ref qp, .int 1, .ref y4, .int 0, .ref y5, .int 0, .ref y6, .ref y7, .ref y8, .int 0, .ref y9, .ref y10, .ref y11]))] H := hP.sub (ws' := [(h0, .inr (0, [.ref qm, .ref y1, .ref y2, .ref y3, .ref qp, .int 1, .ref y4, .int 0, .ref y5, .int 0, .ref y6, .ref y7, .ref y8, .int 0, .ref y9, .ref y10, .ref y11]))]) [0] rfl
  have hD9 := hD.sub (ws' := [(h0, .inr (0, [.ref qm, .ref y1, .ref y2, .ref y3, .ref qp, .int 1, .ref y4, .int 0, .ref y5, .int 0, .ref y6, .ref y7, .ref y8, .int 0, .ref y9, .ref y10, .ref y11]))]) [0] (by decide) rfl
  have hK9 := hK.sub (tys' := []) [] rfl
  refine W.widen (k := 0) (n := 0) (by omega) (by omega) ?_
  exact W.iret hx hb hr (fun t ht hW => ⟨⟨_, (), rfl, rfl, ⟨by rw [ht]; exact hP9, va_K.moved hW.alike hK9, hD9⟩⟩, hS.F ht⟩) hS.2.2 d_addProgram_20

abbrev rm_programAt : Room := { frames := 0, cells := 0, slots := 0, locals := 0 }
abbrev b_programAt : ByteArray := prog_1_method_40_code
def y_programAt : MethodName := ⟨"Leastcode", "programAt", "(I)LLeastcode$Code;"⟩
def w_programAt : List Cond := [.code ⟨"Leastcode", "programAt", "(I)LLeastcode$Code;"⟩ prog_1_method_40_code 2 (some (.object "Leastcode$Code")), .laysFinal "Leastcode" "Leastcode" "machine" "LLeastcode$Machine;", .laysFinal "Leastcode" "Leastcode" "prices" "LLeastcode$Prices;", .laysFinal "Leastcode" "Leastcode" "lots" "LLeastcode$Lots;", .laysFinal "Leastcode" "Leastcode" "search" "LLeastcode$Search;", .laysFinal "Leastcode" "Leastcode" "programs" "[LLeastcode$Code;", .lays "Leastcode" "Leastcode" "programCount" "I", .laysFinal "Leastcode" "Leastcode" "goals" "[LLeastcode$Goal;", .lays "Leastcode" "Leastcode" "goalCount" "I", .laysFinal "Leastcode" "Leastcode" "rules" "[LLeastcode$Rule;", .lays "Leastcode" "Leastcode" "ruleCount" "I", .laysFinal "Leastcode" "Leastcode" "killed" "[I", .laysFinal "Leastcode" "Leastcode" "unlikeUpTo" "[I", .laysFinal "Leastcode" "Leastcode" "found" "LLeastcode$Code;", .lays "Leastcode" "Leastcode" "hasFound" "Z", .laysFinal "Leastcode" "Leastcode" "draft" "LLeastcode$Code;", .laysFinal "Leastcode" "Leastcode" "shorter" "LLeastcode$Code;", .laysFinal "Leastcode" "Leastcode" "windowGoal" "LLeastcode$Goal;", .fieldLink "Leastcode" 84 "Leastcode" "programCount" "I", .fieldLink "Leastcode" 41 "Leastcode" "programs" "[LLeastcode$Code;"]
theorem d_programAt_0 : decode b_programAt 0 = .ok (.iload_n 1, 1) := by decide +kernel
theorem d_programAt_1 : decode b_programAt 1 = .ok (.ifCond .lt 11, 3) := by decide +kernel
theorem d_programAt_4 : decode b_programAt 4 = .ok (.iload_n 1, 1) := by decide +kernel
theorem d_programAt_5 : decode b_programAt 5 = .ok (.aload_n 0, 1) := by decide +kernel
theorem d_programAt_6 : decode b_programAt 6 = .ok (.getfield 84, 3) := by decide +kernel
theorem d_programAt_9 : decode b_programAt 9 = .ok (.if_icmp .lt 14, 3) := by decide +kernel
theorem d_programAt_23 : decode b_programAt 23 = .ok (.aload_n 0, 1) := by decide +kernel
theorem d_programAt_24 : decode b_programAt 24 = .ok (.getfield 41, 3) := by decide +kernel
theorem d_programAt_27 : decode b_programAt 27 = .ok (.iload_n 1, 1) := by decide +kernel
theorem d_programAt_28 : decode b_programAt 28 = .ok (.aaload, 1) := by decide +kernel
theorem d_programAt_29 : decode b_programAt 29 = .ok (.areturn, 1) := by decide +kernel
theorem in_programAt_LC : ∀ v ∈ u_ws R_LC T_LC 17, v ∈ w_programAt := by decide +kernel
set_option maxHeartbeats 4000000 in
set_option maxRecDepth 100000 in
theorem c_programAt (l : Launch) (dC : Nat → ClassId) (dI : Nat → Nat → Nat) (h0 : Nat) (qm : Nat) (qp : Nat) (y1 : Nat) (y2 : Nat) (y3 : Nat) (y4 : Nat) (y5 : Nat) (y6 : Nat) (y7 : Nat) (y8 : Nat) (y9 : Nat) (y10 : Nat) (y11 : Nat) (cB : ClassId) (fp : Nat → Option Nat) (c0 : Nat) (hf : fp 0 = some c0) : Met l y_programAt w_programAt rm_programAt (va_Pc [.ref h0, .int 0] (fun U => va_P (dC, dI) classes [(h0, .inr (0, [.ref qm, .ref y1, .ref y2, .ref y3, .ref qp, .int 1, .ref y4, .int 0, .ref y5, .int 0, .ref y6, .ref y7, .ref y8, .int 0, .ref y9, .ref y10, .ref y11])), (qp, .inl (cB, 8, .inr (.inr (.inr (.inr (fp))))))] U.heap ∧ va_K (dC, dI) classes [(cB, .object "Leastcode$Code")] U)) (va_Sr (fun r => r = c0) Value.ref) 0 0 (fun _ => False) := by
  refine Met.ofW (cc := b_programAt) (maxL := 2) (ret := (some (.object "Leastcode$Code"))) (by decide) rfl ?_
  intro p e s m args below meth c s₁ B hml hv
  obtain ⟨rfl, hP, hK⟩ := hv
  have hx := B.exec
  have hb := B.bytes
  have hr := B.returns
  have hts := atoms_spec (ws := w_programAt) B.pre
  have hown : s.vm.findClass "Leastcode" = some m.cls := findClass_of_methodNamed B.named
  have hlocks := B.notSynchronized
  have hP : va_P (dC, dI) classes [(h0, .inr (0, [.ref qm, .ref y1, .ref y2, .ref y3, .ref qp, .int 1, .ref y4, .int 0, .ref y5, .int 0, .ref y6, .ref y7, .ref y8, .int 0, .ref y9, .ref y10, .ref y11])), (qp, .inl (cB, 8, .inr (.inr (.inr (.inr (fp))))))] s.heap := hP
  have hl := lv_entry ([.ref h0, .int 0]) (n := 2) (Nat.le_of_ble_eq_true rfl)
  rw [lg_entry_eq]
  generalize (lg_sl ([.ref h0, .int 0]) ++ List.replicate (2 - (lg_sl ([.ref h0, .int 0])).length) Slot.unset).toArray = ls at hl ⊢
  have hl : lv_has ls 2 [(0, .ref h0), (1, .int 0)] := hl
  refine lv_iload_n hx hb d_programAt_0 rfl (lv_at hl 1 rfl) ?_
  refine lv_if_lt (tgt := 12) hx hb d_programAt_1 (by decide) (fun c_1 => ?_) (fun c_1 => ?_)
  · exact absurd c_1 (by decide)
  · skip
    refine lv_iload_n hx hb d_programAt_4 rfl (lv_at hl 1 rfl) ?_
    refine lv_aload_n hx hb d_programAt_5 rfl (lv_at hl 0 rfl) ?_
    refine va_get (D := (dC, dI)) (ci := 0) (v := .int 1) (C := R_LC) (T := T_LC) (N := 17) hx hb hts in_programAt_LC hown hK hP 0 rfl rfl 5 (by decide) (hts (.fieldLink "Leastcode" 84 "Leastcode" "programCount" "I") (List.mem_of_getElem? (i := 18) rfl)) (fun _ h9 => h9) rfl d_programAt_6 ?_
    refine lv_icmp_lt (tgt := 23) hx hb d_programAt_9 (by decide) (fun c_9 => ?_) (fun c_9 => ?_)
    · skip
      refine lv_aload_n hx hb d_programAt_23 rfl (lv_at hl 0 rfl) ?_
      refine va_get (D := (dC, dI)) (ci := 0) (v := .ref qp) (C := R_LC) (T := T_LC) (N := 17) hx hb hts in_programAt_LC hown hK hP 0 rfl rfl 4 (by decide) (hts (.fieldLink "Leastcode" 41 "Leastcode" "programs" "[LLeastcode$Code;") (List.mem_of_getElem? (i := 19) rfl)) (fun _ h9 => h9) rfl d_programAt_24 ?_
      refine lv_iload_n hx hb d_programAt_27 rfl (lv_at hl 1 rfl) ?_
      refine va_aldq hx hb hK hP 1 0 rfl rfl (by unfold vp_in; decide) d_programAt_28 ?_
      have hav : fp (0 : Int32).toNatClampNeg = some c0 := by rw [show (0 : Int32).toNatClampNeg = 0 by decide, hf]
      rw [hav]
      refine W.eq (g2 := F0 m 29 ls [.ref c0]) rfl ?_
      exact W.aret hx hb hr (Or.inl ⟨_, rfl⟩) (Or.inr ⟨_, rfl⟩) (fun t ht hW => ⟨_, rfl, rfl, ht⟩) (fun _ h => by cases h) d_programAt_29
    · exact absurd (by decide) c_9

abbrev rm_kindAt : Room := { frames := 4, cells := 0, slots := 0, locals := 85 }
abbrev b_kindAt : ByteArray := prog_1_method_42_code
def y_kindAt : MethodName := ⟨"Leastcode", "kindAt", "(C)I"⟩
def w_kindAt : List Cond := [.code ⟨"Leastcode", "kindAt", "(C)I"⟩ prog_1_method_42_code 2 (some .int), .methodLink "Leastcode" 307 ⟨"java/lang/String", "length", "()I"⟩, .instanceMethod ⟨"java/lang/String", "length", "()I"⟩, .selects "java/lang/String" ⟨"java/lang/String", "length", "()I"⟩ ⟨"java/lang/String", "length", "()I"⟩, .initialized "java/lang/String", .code ⟨"java/lang/String", "length", "()I"⟩ prog_34_method_54_code 1 (some .int), .fieldLink "java/lang/String" 9 "java/lang/String" "value" "[B", .methodLink "java/lang/String" 335 ⟨"java/lang/String", "coder", "()B"⟩, .instanceMethod ⟨"java/lang/String", "coder", "()B"⟩, .selects "java/lang/String" ⟨"java/lang/String", "coder", "()B"⟩ ⟨"java/lang/String", "coder", "()B"⟩, .code ⟨"java/lang/String", "coder", "()B"⟩ prog_34_method_152_code 1 (some .byte), .fieldLink "java/lang/String" 38 "java/lang/String" "COMPACT_STRINGS" "Z", .fieldLink "java/lang/String" 15 "java/lang/String" "coder" "B", .methodLink "Leastcode" 310 ⟨"java/lang/String", "charAt", "(I)C"⟩, .instanceMethod ⟨"java/lang/String", "charAt", "(I)C"⟩, .selects "java/lang/String" ⟨"java/lang/String", "charAt", "(I)C"⟩ ⟨"java/lang/String", "charAt", "(I)C"⟩, .code ⟨"java/lang/String", "charAt", "(I)C"⟩ prog_34_method_56_code 2 (some .char), .methodLink "java/lang/String" 492 ⟨"java/lang/String", "isLatin1", "()Z"⟩, .instanceMethod ⟨"java/lang/String", "isLatin1", "()Z"⟩, .selects "java/lang/String" ⟨"java/lang/String", "isLatin1", "()Z"⟩ ⟨"java/lang/String", "isLatin1", "()Z"⟩, .code ⟨"java/lang/String", "isLatin1", "()Z"⟩ prog_34_method_154_code 1 (some .boolean), .methodLink "java/lang/String" 495 ⟨"java/lang/StringLatin1", "charAt", "([BI)C"⟩, .static ⟨"java/lang/StringLatin1", "charAt", "([BI)C"⟩, .initialized "java/lang/StringLatin1", .code ⟨"java/lang/StringLatin1", "charAt", "([BI)C"⟩ prog_36_method_2_code 2 (some .char), .methodLink "java/lang/StringLatin1" 9 ⟨"java/lang/String", "checkIndex", "(II)V"⟩, .static ⟨"java/lang/String", "checkIndex", "(II)V"⟩, .code ⟨"java/lang/String", "checkIndex", "(II)V"⟩ prog_34_method_155_code 2 none, .fieldLink "java/lang/String" 1053 "jdk/internal/util/Preconditions" "SIOOBE_FORMATTER" "Ljava/util/function/BiFunction;", .methodLink "java/lang/String" 1059 ⟨"jdk/internal/util/Preconditions", "checkIndex", "(IILjava/util/function/BiFunction;)I"⟩, .static ⟨"jdk/internal/util/Preconditions", "checkIndex", "(IILjava/util/function/BiFunction;)I"⟩, .initialized "jdk/internal/util/Preconditions", .code ⟨"jdk/internal/util/Preconditions", "checkIndex", "(IILjava/util/function/BiFunction;)I"⟩ prog_81_method_11_code 3 (some .int)]
theorem d_kindAt_0 : decode b_kindAt 0 = .ok (.iconst 0, 1) := by decide +kernel
theorem d_kindAt_1 : decode b_kindAt 1 = .ok (.istore_n 1, 1) := by decide +kernel
theorem d_kindAt_2 : decode b_kindAt 2 = .ok (.iload_n 1, 1) := by decide +kernel
theorem d_kindAt_3 : decode b_kindAt 3 = .ok (.ldc_w 305, 3) := by decide +kernel
theorem d_kindAt_6 : decode b_kindAt 6 = .ok (.invokevirtual 307, 3) := by decide +kernel
theorem d_kindAt_9 : decode b_kindAt 9 = .ok (.if_icmp .ge 22, 3) := by decide +kernel
theorem d_kindAt_12 : decode b_kindAt 12 = .ok (.ldc_w 305, 3) := by decide +kernel
theorem d_kindAt_15 : decode b_kindAt 15 = .ok (.iload_n 1, 1) := by decide +kernel
theorem d_kindAt_16 : decode b_kindAt 16 = .ok (.invokevirtual 310, 3) := by decide +kernel
theorem d_kindAt_19 : decode b_kindAt 19 = .ok (.iload_n 0, 1) := by decide +kernel
theorem d_kindAt_20 : decode b_kindAt 20 = .ok (.if_icmp .ne 5, 3) := by decide +kernel
theorem d_kindAt_23 : decode b_kindAt 23 = .ok (.iload_n 1, 1) := by decide +kernel
theorem d_kindAt_24 : decode b_kindAt 24 = .ok (.ireturn, 1) := by decide +kernel
theorem d_kindAt_25 : decode b_kindAt 25 = .ok (.iinc 1 1, 3) := by decide +kernel
theorem d_kindAt_28 : decode b_kindAt 28 = .ok (.goto (-26), 3) := by decide +kernel
set_option maxRecDepth 20000 in
theorem g_kindAt_6 : GoodIn w_kindAt (wsV "Leastcode" 307 "java/lang/String" ⟨"java/lang/String", "length", "()I"⟩ w_ST_length) := goodIn_r _ [1, 2, 3, 4, 5, 6, 7, 8, 9, 4, 10, 11, 12] rfl (by decide +kernel)
set_option maxRecDepth 20000 in
theorem g_kindAt_16 : GoodIn w_kindAt (wsV "Leastcode" 310 "java/lang/String" ⟨"java/lang/String", "charAt", "(I)C"⟩ w_ST_charAt) := goodIn_r _ [13, 14, 15, 4, 16, 17, 18, 19, 4, 20, 11, 12, 6, 21, 22, 23, 24, 25, 26, 27, 28, 29, 30, 31, 32] rfl (by decide +kernel)
set_option maxHeartbeats 4000000 in
set_option maxRecDepth 100000 in
theorem c_kindAt (l : Launch) (sa : Nat) (va : Nat) : Met l y_kindAt w_kindAt rm_kindAt (va_Pc [.int 102] (fun U => va_O "java/lang/String" sa (fun _ => False) U U.heap ∧ va_OF "java/lang/String" "value" "[B" (.ref va) sa (fun _ => False) U U.heap ∧ va_OF "java/lang/String" "coder" "B" (.int 0) sa (fun _ => False) U U.heap ∧ va_T .byte va 16 kb (fun _ => False) U U.heap ∧ va_Z "java/lang/String" "COMPACT_STRINGS" "Z" (.int 1) (fun _ => False) U U.heap ∧ va_Zq "jdk/internal/util/Preconditions" "SIOOBE_FORMATTER" "Ljava/util/function/BiFunction;" (fun _ => False) U U.heap ∧ vk_R "Leastcode" 305 "masnoxkcidlrtzbf" sa U)) (vp_Si (fun r => r = 15)) 0 0 (fun _ => False) := by
  refine Met.ofW (cc := b_kindAt) (maxL := 2) (ret := (some .int)) (by decide) rfl ?_
  intro p e s m args below meth c s₁ B hml hv
  obtain ⟨rfl, hE0, hE1, hE2, hE3, hE4, hE5, hE6⟩ := hv
  have hx := B.exec
  have hb := B.bytes
  have hr := B.returns
  have hts := atoms_spec (ws := w_kindAt) B.pre
  have hown : s.vm.findClass "Leastcode" = some m.cls := findClass_of_methodNamed B.named
  have hlocks := B.notSynchronized
  have hl := lv_entry ([.int 102]) (n := 2) (Nat.le_of_ble_eq_true rfl)
  rw [lg_entry_eq]
  generalize (lg_sl ([.int 102]) ++ List.replicate (2 - (lg_sl ([.int 102])).length) Slot.unset).toArray = ls at hl ⊢
  have hl : lv_has ls 2 [(0, .int 102)] := hl
  refine lv_iconst (v := 0) hx hb d_kindAt_0 (by decide) ?_
  refine lv_istore_n (lv' := [(1, .int 0), (0, .int 102)]) hx hb d_kindAt_1 rfl hl (by decide) rfl (fun ls hl => ?_)
  refine ry_abs (fun QQ hQ => ?_)
  have loop : ∀ (k i : Nat), i + k = 15 → ∀ (ls : Array Slot) (x : Int32), x = nI i → lv_has ls 2 [(1, .int x), (0, .int 102)] → W p l e (headSpec w_kindAt rm_kindAt).room s m ([.int 102] : List Value).toArray below meth c s.heap [] (0) (0) QQ (F0 m 2 ls []) := by
    intro k
    induction k with
    | zero =>
      intro i hi ls x ex0 hl
      obtain rfl : i = 15 := by omega
      refine lv_iload_n hx hb d_kindAt_2 rfl (lv_at hl 0 rfl) ?_
      refine va_ldcSW hx hb hown hE6 d_kindAt_3 ?_
      refine vp_callSi (W.runV (As := []) (rest := [.int x]) ⟨hx, hb, hml, hown, hts⟩ (c_ST_length l sa va) (cwV 0 hts g_kindAt_6 rfl rfl rfl (by decide +kernel) ⟨Nat.le_of_ble_eq_true rfl, Nat.le_of_ble_eq_true rfl⟩) ⟨fun a U g mk z => by obtain ⟨z0, zE0, zE1, zE2, zE3, zE4⟩ := z; exact ⟨z0, zE0.moved (u := U) (U := U.calling g mk a) (Vm.Alike.refl U.vm), zE1.moved (u := U) (U := U.calling g mk a) (Vm.Alike.refl U.vm), zE2.moved (u := U) (U := U.calling g mk a) (Vm.Alike.refl U.vm), zE3.moved (u := U) (U := U.calling g mk a) (Vm.Alike.refl U.vm), zE4.moved (u := U) (U := U.calling g mk a) (Vm.Alike.refl U.vm)⟩, va_Orecv hE0 (va_S.rf (A := fun _ => False)), fun U hU hW => ⟨rfl, by have q9 := hE0.moved hW.alike; rw [← hU] at q9; exact q9, by have q9 := hE1.moved hW.alike; rw [← hU] at q9; exact q9, by have q9 := hE2.moved hW.alike; rw [← hU] at q9; exact q9, by have q9 := hE3.moved hW.alike; rw [← hU] at q9; exact q9, by have q9 := hE4.moved hW.alike; rw [← hU] at q9; exact q9⟩⟩ rfl rfl hl.1 rfl (lv_room (Nat.le_of_ble_eq_true rfl)) d_kindAt_6 ⟨(Nat.le_of_ble_eq_true rfl), (Nat.le_of_ble_eq_true rfl)⟩) (fun r1 hr1 => ?_)
      replace hr1 := hr1.symm; subst hr1
      refine lv_icmp_ge (tgt := 31) hx hb d_kindAt_9 (by decide) (fun c_9 => ?_) (fun c_9 => ?_)
      · exact absurd c_9 (by rw [ex0]; exact (show ¬ nI 16 ≤ nI 15 from nI_ge (by omega) (by omega)))
      · skip
        refine va_ldcSW hx hb hown hE6 d_kindAt_12 ?_
        refine lv_iload_n hx hb d_kindAt_15 rfl (lv_at hl 0 rfl) ?_
        refine vp_callSi (W.runV (As := [.int x]) (rest := []) ⟨hx, hb, hml, hown, hts⟩ (c_ST_charAt l sa va x 15 (by omega) ex0) (cwV 1 hts g_kindAt_16 rfl rfl rfl (by decide +kernel) ⟨Nat.le_of_ble_eq_true rfl, Nat.le_of_ble_eq_true rfl⟩) ⟨fun a U g mk z => by obtain ⟨z0, zE0, zE1, zE2, zE3, zE4, zE5⟩ := z; exact ⟨z0, zE0.moved (u := U) (U := U.calling g mk a) (Vm.Alike.refl U.vm), zE1.moved (u := U) (U := U.calling g mk a) (Vm.Alike.refl U.vm), zE2.moved (u := U) (U := U.calling g mk a) (Vm.Alike.refl U.vm), zE3.moved (u := U) (U := U.calling g mk a) (Vm.Alike.refl U.vm), zE4.moved (u := U) (U := U.calling g mk a) (Vm.Alike.refl U.vm), zE5.moved (u := U) (U := U.calling g mk a) (Vm.Alike.refl U.vm)⟩, va_Orecv hE0 (va_S.rf (A := fun _ => False)), fun U hU hW => ⟨rfl, by have q9 := hE0.moved hW.alike; rw [← hU] at q9; exact q9, by have q9 := hE1.moved hW.alike; rw [← hU] at q9; exact q9, by have q9 := hE2.moved hW.alike; rw [← hU] at q9; exact q9, by have q9 := hE3.moved hW.alike; rw [← hU] at q9; exact q9, by have q9 := hE4.moved hW.alike; rw [← hU] at q9; exact q9, by have q9 := hE5.moved hW.alike; rw [← hU] at q9; exact q9⟩⟩ rfl rfl hl.1 rfl (lv_room (Nat.le_of_ble_eq_true rfl)) d_kindAt_16 ⟨(Nat.le_of_ble_eq_true rfl), (Nat.le_of_ble_eq_true rfl)⟩) (fun r2 hr2 => ?_)
        replace hr2 := hr2.symm; subst hr2
        refine lv_iload_n hx hb d_kindAt_19 rfl (lv_at hl 1 rfl) ?_
        refine lv_icmp_ne (tgt := 25) hx hb d_kindAt_20 (by decide) (fun c_20 => ?_) (fun c_20 => ?_)
        · exact absurd c_20 (fun q => q kb_last)
        · skip
          refine lv_iload_n hx hb d_kindAt_23 rfl (lv_at hl 0 rfl) ?_
          subst hQ
          exact W.iret hx hb hr (fun t ht hW => ⟨_, rfl, (by rw [ex0]; decide), ht⟩) (fun _ h => by cases h) d_kindAt_24
    | succ k ih =>
      intro i hi ls x ex0 hl
      have hlt : i < 15 := by omega
      refine lv_iload_n hx hb d_kindAt_2 rfl (lv_at hl 0 rfl) ?_
      refine va_ldcSW hx hb hown hE6 d_kindAt_3 ?_
      refine vp_callSi (W.runV (As := []) (rest := [.int x]) ⟨hx, hb, hml, hown, hts⟩ (c_ST_length l sa va) (cwV 0 hts g_kindAt_6 rfl rfl rfl (by decide +kernel) ⟨Nat.le_of_ble_eq_true rfl, Nat.le_of_ble_eq_true rfl⟩) ⟨fun a U g mk z => by obtain ⟨z0, zE0, zE1, zE2, zE3, zE4⟩ := z; exact ⟨z0, zE0.moved (u := U) (U := U.calling g mk a) (Vm.Alike.refl U.vm), zE1.moved (u := U) (U := U.calling g mk a) (Vm.Alike.refl U.vm), zE2.moved (u := U) (U := U.calling g mk a) (Vm.Alike.refl U.vm), zE3.moved (u := U) (U := U.calling g mk a) (Vm.Alike.refl U.vm), zE4.moved (u := U) (U := U.calling g mk a) (Vm.Alike.refl U.vm)⟩, va_Orecv hE0 (va_S.rf (A := fun _ => False)), fun U hU hW => ⟨rfl, by have q9 := hE0.moved hW.alike; rw [← hU] at q9; exact q9, by have q9 := hE1.moved hW.alike; rw [← hU] at q9; exact q9, by have q9 := hE2.moved hW.alike; rw [← hU] at q9; exact q9, by have q9 := hE3.moved hW.alike; rw [← hU] at q9; exact q9, by have q9 := hE4.moved hW.alike; rw [← hU] at q9; exact q9⟩⟩ rfl rfl hl.1 rfl (lv_room (Nat.le_of_ble_eq_true rfl)) d_kindAt_6 ⟨(Nat.le_of_ble_eq_true rfl), (Nat.le_of_ble_eq_true rfl)⟩) (fun r3 hr3 => ?_)
      replace hr3 := hr3.symm; subst hr3
      refine lv_icmp_ge (tgt := 31) hx hb d_kindAt_9 (by decide) (fun c_9 => ?_) (fun c_9 => ?_)
      · exact absurd c_9 (by rw [ex0]; exact (show ¬ nI 16 ≤ nI i from nI_ge (by omega) (by omega)))
      · skip
        refine va_ldcSW hx hb hown hE6 d_kindAt_12 ?_
        refine lv_iload_n hx hb d_kindAt_15 rfl (lv_at hl 0 rfl) ?_
        refine vp_callSi (W.runV (As := [.int x]) (rest := []) ⟨hx, hb, hml, hown, hts⟩ (c_ST_charAt l sa va x i (by omega) ex0) (cwV 1 hts g_kindAt_16 rfl rfl rfl (by decide +kernel) ⟨Nat.le_of_ble_eq_true rfl, Nat.le_of_ble_eq_true rfl⟩) ⟨fun a U g mk z => by obtain ⟨z0, zE0, zE1, zE2, zE3, zE4, zE5⟩ := z; exact ⟨z0, zE0.moved (u := U) (U := U.calling g mk a) (Vm.Alike.refl U.vm), zE1.moved (u := U) (U := U.calling g mk a) (Vm.Alike.refl U.vm), zE2.moved (u := U) (U := U.calling g mk a) (Vm.Alike.refl U.vm), zE3.moved (u := U) (U := U.calling g mk a) (Vm.Alike.refl U.vm), zE4.moved (u := U) (U := U.calling g mk a) (Vm.Alike.refl U.vm), zE5.moved (u := U) (U := U.calling g mk a) (Vm.Alike.refl U.vm)⟩, va_Orecv hE0 (va_S.rf (A := fun _ => False)), fun U hU hW => ⟨rfl, by have q9 := hE0.moved hW.alike; rw [← hU] at q9; exact q9, by have q9 := hE1.moved hW.alike; rw [← hU] at q9; exact q9, by have q9 := hE2.moved hW.alike; rw [← hU] at q9; exact q9, by have q9 := hE3.moved hW.alike; rw [← hU] at q9; exact q9, by have q9 := hE4.moved hW.alike; rw [← hU] at q9; exact q9, by have q9 := hE5.moved hW.alike; rw [← hU] at q9; exact q9⟩⟩ rfl rfl hl.1 rfl (lv_room (Nat.le_of_ble_eq_true rfl)) d_kindAt_16 ⟨(Nat.le_of_ble_eq_true rfl), (Nat.le_of_ble_eq_true rfl)⟩) (fun r4 hr4 => ?_)
        replace hr4 := hr4.symm; subst hr4
        refine lv_iload_n hx hb d_kindAt_19 rfl (lv_at hl 1 rfl) ?_
        refine lv_icmp_ne (tgt := 25) hx hb d_kindAt_20 (by decide) (fun c_20 => ?_) (fun c_20 => ?_)
        · skip
          obtain ⟨x5, ex5⟩ : ∃ y : Int32, y = x + 1 := ⟨_, rfl⟩
          refine lv_iinc (v := x5) (lv' := [(1, .int x5), (0, .int 102)]) hx hb d_kindAt_25 hl (k := 0) rfl (by rw [ex5]; rfl) (by decide) rfl (fun ls hl => ?_)
          refine lv_goto (tgt := 2) hx hb d_kindAt_28 (by decide) ?_
          exact ih (i + 1) (by omega) _ x5 (by rw [ex5, ex0]; exact nI_1 i) (lv_sub hl [0, 1] rfl)
        · exact absurd c_20 (kb_not i hlt)
  exact loop 15 0 rfl _ _ nI_0.symm (lv_sub hl [0, 1] rfl)

abbrev rm_numberOf15 : Room := { frames := 0, cells := 0, slots := 0, locals := 0 }
abbrev b_numberOf15 : ByteArray := prog_6_method_2_code
def y_numberOf15 : MethodName := ⟨"Leastcode$Machine", "numberOf", "(III)I"⟩
def w_numberOf15 : List Cond := [.code ⟨"Leastcode$Machine", "numberOf", "(III)I"⟩ prog_6_method_2_code 3 (some .int)]
theorem d_numberOf15_0 : decode b_numberOf15 0 = .ok (.iload_n 0, 1) := by decide +kernel
theorem d_numberOf15_1 : decode b_numberOf15 1 = .ok (.bipush 15, 2) := by decide +kernel
theorem d_numberOf15_3 : decode b_numberOf15 3 = .ok (.if_icmp .lt 6, 3) := by decide +kernel
theorem d_numberOf15_6 : decode b_numberOf15 6 = .ok (.bipush 46, 2) := by decide +kernel
theorem d_numberOf15_8 : decode b_numberOf15 8 = .ok (.ireturn, 1) := by decide +kernel
set_option maxHeartbeats 4000000 in
set_option maxRecDepth 100000 in
theorem c_numberOf15 (l : Launch)  : Met l y_numberOf15 w_numberOf15 rm_numberOf15 (va_Pc [.int 15, .int 0, .int 0] (fun U => True)) (vp_Si (fun r => r = 46)) 0 0 (fun _ => False) := by
  refine Met.ofW (cc := b_numberOf15) (maxL := 3) (ret := (some .int)) (by decide) rfl ?_
  intro p e s m args below meth c s₁ B hml hv
  obtain ⟨rfl, -⟩ := hv
  have hx := B.exec
  have hb := B.bytes
  have hr := B.returns
  have hts := atoms_spec (ws := w_numberOf15) B.pre
  have hown : s.vm.findClass "Leastcode$Machine" = some m.cls := findClass_of_methodNamed B.named
  have hlocks := B.notSynchronized
  have hl := lv_entry ([.int 15, .int 0, .int 0]) (n := 3) (Nat.le_of_ble_eq_true rfl)
  rw [lg_entry_eq]
  generalize (lg_sl ([.int 15, .int 0, .int 0]) ++ List.replicate (3 - (lg_sl ([.int 15, .int 0, .int 0])).length) Slot.unset).toArray = ls at hl ⊢
  have hl : lv_has ls 3 [(0, .int 15), (1, .int 0), (2, .int 0)] := hl
  refine lv_iload_n hx hb d_numberOf15_0 rfl (lv_at hl 0 rfl) ?_
  refine lv_bipush (v := 15) hx hb d_numberOf15_1 (by decide) ?_
  refine lv_icmp_lt (tgt := 9) hx hb d_numberOf15_3 (by decide) (fun c_3 => ?_) (fun c_3 => ?_)
  · exact absurd c_3 (by decide)
  · skip
    refine lv_bipush (v := 46) hx hb d_numberOf15_6 (by decide) ?_
    exact W.iret hx hb hr (fun t ht hW => ⟨_, rfl, rfl, ht⟩) (fun _ h => by cases h) d_numberOf15_8

abbrev rm_Code_length : Room := { frames := 0, cells := 0, slots := 0, locals := 0 }
abbrev b_Code_length : ByteArray := prog_2_method_2_code
def y_Code_length : MethodName := ⟨"Leastcode$Code", "length", "()I"⟩
def w_Code_length : List Cond := [.code ⟨"Leastcode$Code", "length", "()I"⟩ prog_2_method_2_code 1 (some .int), .laysFinal "Leastcode$Code" "Leastcode$Code" "numbers" "[I", .lays "Leastcode$Code" "Leastcode$Code" "length" "I", .fieldLink "Leastcode$Code" 15 "Leastcode$Code" "length" "I"]
theorem d_Code_length_0 : decode b_Code_length 0 = .ok (.aload_n 0, 1) := by decide +kernel
theorem d_Code_length_1 : decode b_Code_length 1 = .ok (.getfield 15, 3) := by decide +kernel
theorem d_Code_length_4 : decode b_Code_length 4 = .ok (.ireturn, 1) := by decide +kernel
theorem in_Code_length_CO : ∀ v ∈ u_ws R_CO T_CO 2, v ∈ w_Code_length := by decide +kernel
set_option maxHeartbeats 4000000 in
set_option maxRecDepth 100000 in
theorem c_Code_length (l : Launch) (dC : Nat → ClassId) (dI : Nat → Nat → Nat) (c0 : Nat) (a0 : Nat) (n : Int32) : Met l y_Code_length w_Code_length rm_Code_length (va_Pc [.ref c0] (fun U => va_P (dC, dI) classes [(c0, .inr (2, [.ref a0, .int n]))] U.heap ∧ va_K (dC, dI) classes [] U)) (vp_Si (fun r => r = n)) 0 0 (fun _ => False) := by
  refine Met.ofW (cc := b_Code_length) (maxL := 1) (ret := (some .int)) (by decide) rfl ?_
  intro p e s m args below meth c s₁ B hml hv
  obtain ⟨rfl, hP, hK⟩ := hv
  have hx := B.exec
  have hb := B.bytes
  have hr := B.returns
  have hts := atoms_spec (ws := w_Code_length) B.pre
  have hown : s.vm.findClass "Leastcode$Code" = some m.cls := findClass_of_methodNamed B.named
  have hlocks := B.notSynchronized
  have hP : va_P (dC, dI) classes [(c0, .inr (2, [.ref a0, .int n]))] s.heap := hP
  have hl := lv_entry ([.ref c0]) (n := 1) (Nat.le_of_ble_eq_true rfl)
  rw [lg_entry_eq]
  generalize (lg_sl ([.ref c0]) ++ List.replicate (1 - (lg_sl ([.ref c0])).length) Slot.unset).toArray = ls at hl ⊢
  have hl : lv_has ls 1 [(0, .ref c0)] := hl
  refine lv_aload_n hx hb d_Code_length_0 rfl (lv_at hl 0 rfl) ?_
  refine va_get (D := (dC, dI)) (ci := 2) (v := .int n) (C := R_CO) (T := T_CO) (N := 2) hx hb hts in_Code_length_CO hown hK hP 0 rfl rfl 1 (by decide) (hts (.fieldLink "Leastcode$Code" 15 "Leastcode$Code" "length" "I") (List.mem_of_getElem? (i := 3) rfl)) (fun _ h9 => h9) rfl d_Code_length_1 ?_
  exact W.iret hx hb hr (fun t ht hW => ⟨_, rfl, rfl, ht⟩) (fun _ h => by cases h) d_Code_length_4

abbrev rm_Code_append : Room := { frames := 0, cells := 0, slots := 0, locals := 0 }
abbrev b_Code_append : ByteArray := prog_2_method_6_code
def y_Code_append : MethodName := ⟨"Leastcode$Code", "append", "(I)V"⟩
def w_Code_append : List Cond := [.code ⟨"Leastcode$Code", "append", "(I)V"⟩ prog_2_method_6_code 2 none, .laysFinal "Leastcode$Code" "Leastcode$Code" "numbers" "[I", .lays "Leastcode$Code" "Leastcode$Code" "length" "I", .fieldLink "Leastcode$Code" 15 "Leastcode$Code" "length" "I", .fieldLink "Leastcode$Code" 9 "Leastcode$Code" "numbers" "[I"]
theorem d_Code_append_0 : decode b_Code_append 0 = .ok (.aload_n 0, 1) := by decide +kernel
theorem d_Code_append_1 : decode b_Code_append 1 = .ok (.getfield 15, 3) := by decide +kernel
theorem d_Code_append_4 : decode b_Code_append 4 = .ok (.ifCond .lt 32, 3) := by decide +kernel
theorem d_Code_append_7 : decode b_Code_append 7 = .ok (.aload_n 0, 1) := by decide +kernel
theorem d_Code_append_8 : decode b_Code_append 8 = .ok (.getfield 15, 3) := by decide +kernel
theorem d_Code_append_11 : decode b_Code_append 11 = .ok (.bipush 8, 2) := by decide +kernel
theorem d_Code_append_13 : decode b_Code_append 13 = .ok (.if_icmp .ge 23, 3) := by decide +kernel
theorem d_Code_append_16 : decode b_Code_append 16 = .ok (.aload_n 0, 1) := by decide +kernel
theorem d_Code_append_17 : decode b_Code_append 17 = .ok (.getfield 9, 3) := by decide +kernel
theorem d_Code_append_20 : decode b_Code_append 20 = .ok (.aload_n 0, 1) := by decide +kernel
theorem d_Code_append_21 : decode b_Code_append 21 = .ok (.getfield 15, 3) := by decide +kernel
theorem d_Code_append_24 : decode b_Code_append 24 = .ok (.iload_n 1, 1) := by decide +kernel
theorem d_Code_append_25 : decode b_Code_append 25 = .ok (.iastore, 1) := by decide +kernel
theorem d_Code_append_26 : decode b_Code_append 26 = .ok (.aload_n 0, 1) := by decide +kernel
theorem d_Code_append_27 : decode b_Code_append 27 = .ok (.dup, 1) := by decide +kernel
theorem d_Code_append_28 : decode b_Code_append 28 = .ok (.getfield 15, 3) := by decide +kernel
theorem d_Code_append_31 : decode b_Code_append 31 = .ok (.iconst 1, 1) := by decide +kernel
theorem d_Code_append_32 : decode b_Code_append 32 = .ok (.iadd, 1) := by decide +kernel
theorem d_Code_append_33 : decode b_Code_append 33 = .ok (.putfield 15, 3) := by decide +kernel
theorem d_Code_append_36 : decode b_Code_append 36 = .ok (.return_, 1) := by decide +kernel
theorem in_Code_append_CO : ∀ v ∈ u_ws R_CO T_CO 2, v ∈ w_Code_append := by decide +kernel
set_option maxHeartbeats 4000000 in
set_option maxRecDepth 100000 in
theorem c_Code_append (l : Launch) (dC : Nat → ClassId) (dI : Nat → Nat → Nat) (c0 : Nat) (a0 : Nat) (n : Int32) (cC : ClassId) (fa : Nat → Int32) (v : Int32) (k : Nat) (hk : k < 8) (hnk : n = nI k) (sz : Nat) : Met l y_Code_append w_Code_append rm_Code_append (va_Pc [.ref c0, .int v] (fun U => U.heap.size = sz ∧ va_P (dC, dI) classes [(c0, .inr (2, [.ref a0, .int n])), (a0, .inl (cC, 8, .inl (fa)))] U.heap ∧ va_K (dC, dI) classes [(cC, .int)] U ∧ va_D (fun _ => True) [(c0, .inr (2, [.ref a0, .int n])), (a0, .inl (cC, 8, .inl (fa)))])) (va_Qv (fun (_ : Unit) => True) (fun _ t => ∃ n1 : Int32, ∃ f1 : Nat → Int32, va_P (dC, dI) classes [(c0, .inr (2, [.ref a0, .int n1])), (a0, .inl (cC, 8, .inl (f1)))] t.heap ∧ va_K (dC, dI) classes [(cC, .int)] t ∧ va_D (va_A [(c0, .inr (2, [.ref a0, .int n])), (a0, .inl (cC, 8, .inl (fa)))] sz) [(c0, .inr (2, [.ref a0, .int n1])), (a0, .inl (cC, 8, .inl (f1)))] ∧ n1 = nI (k + 1)) (va_A [(c0, .inr (2, [.ref a0, .int n])), (a0, .inl (cC, 8, .inl (fa)))] sz)) 0 0 (va_A [(c0, .inr (2, [.ref a0, .int n])), (a0, .inl (cC, 8, .inl (fa)))] sz) := by
  refine Met.ofW (cc := b_Code_append) (maxL := 2) (ret := none) (by decide) rfl ?_
  intro p e s m args below meth c s₁ B hml hv
  obtain ⟨rfl, hsz, hP, hK, hD0⟩ := hv
  have hx := B.exec
  have hb := B.bytes
  have hr := B.returns
  have hts := atoms_spec (ws := w_Code_append) B.pre
  have hown : s.vm.findClass "Leastcode$Code" = some m.cls := findClass_of_methodNamed B.named
  have hlocks := B.notSynchronized
  subst hsz
  have hD := hD0.self (sz := s.heap.size)
  generalize hAe : va_A [(c0, .inr (2, [.ref a0, .int n])), (a0, .inl (cC, 8, .inl (fa)))] s.heap.size = A at hD ⊢
  have hA : ∀ q : Nat, s.heap.size ≤ q → A q := fun q h => by rw [← hAe]; exact Or.inr h
  have hS : va_S A s.heap s.heap [] := va_S.rf
  have hP : va_P (dC, dI) classes [(c0, .inr (2, [.ref a0, .int n])), (a0, .inl (cC, 8, .inl (fa)))] s.heap := hP
  have hl := lv_entry ([.ref c0, .int v]) (n := 2) (Nat.le_of_ble_eq_true rfl)
  rw [lg_entry_eq]
  generalize (lg_sl ([.ref c0, .int v]) ++ List.replicate (2 - (lg_sl ([.ref c0, .int v])).length) Slot.unset).toArray = ls at hl ⊢
  have hl : lv_has ls 2 [(0, .ref c0), (1, .int v)] := hl
  refine lv_aload_n hx hb d_Code_append_0 rfl (lv_at hl 0 rfl) ?_
  refine va_get (D := (dC, dI)) (ci := 2) (v := .int n) (C := R_CO) (T := T_CO) (N := 2) hx hb hts in_Code_append_CO hown hK hP 0 rfl rfl 1 (by decide) (hts (.fieldLink "Leastcode$Code" 15 "Leastcode$Code" "length" "I") (List.mem_of_getElem? (i := 3) rfl)) (fun _ h9 => h9) rfl d_Code_append_1 ?_
  refine lv_if_lt (tgt := 36) hx hb d_Code_append_4 (by decide) (fun c_4 => ?_) (fun c_4 => ?_)
  · exact absurd c_4 (by rw [hnk]; exact nI_pos (by omega))
  · skip
    refine lv_aload_n hx hb d_Code_append_7 rfl (lv_at hl 0 rfl) ?_
    refine va_get (D := (dC, dI)) (ci := 2) (v := .int n) (C := R_CO) (T := T_CO) (N := 2) hx hb hts in_Code_append_CO hown hK hP 0 rfl rfl 1 (by decide) (hts (.fieldLink "Leastcode$Code" 15 "Leastcode$Code" "length" "I") (List.mem_of_getElem? (i := 3) rfl)) (fun _ h9 => h9) rfl d_Code_append_8 ?_
    refine lv_bipush (v := 8) hx hb d_Code_append_11 (by decide) ?_
    refine lv_icmp_ge (tgt := 36) hx hb d_Code_append_13 (by decide) (fun c_13 => ?_) (fun c_13 => ?_)
    · exact absurd c_13 (by rw [hnk]; exact (show ¬ nI 8 ≤ nI k from nI_ge hk (by omega)))
    · skip
      refine lv_aload_n hx hb d_Code_append_16 rfl (lv_at hl 0 rfl) ?_
      refine va_get (D := (dC, dI)) (ci := 2) (v := .ref a0) (C := R_CO) (T := T_CO) (N := 2) hx hb hts in_Code_append_CO hown hK hP 0 rfl rfl 0 (by decide) (hts (.fieldLink "Leastcode$Code" 9 "Leastcode$Code" "numbers" "[I") (List.mem_of_getElem? (i := 4) rfl)) (fun _ h9 => h9) rfl d_Code_append_17 ?_
      refine lv_aload_n hx hb d_Code_append_20 rfl (lv_at hl 0 rfl) ?_
      refine va_get (D := (dC, dI)) (ci := 2) (v := .int n) (C := R_CO) (T := T_CO) (N := 2) hx hb hts in_Code_append_CO hown hK hP 0 rfl rfl 1 (by decide) (hts (.fieldLink "Leastcode$Code" 15 "Leastcode$Code" "length" "I") (List.mem_of_getElem? (i := 3) rfl)) (fun _ h9 => h9) rfl d_Code_append_21 ?_
      refine lv_iload_n hx hb d_Code_append_24 rfl (lv_at hl 1 rfl) ?_
      refine va_iast (D := (dC, dI)) hx hb hK hP hD hS 1 0 rfl rfl (by rw [hnk]; exact vp_in_nI hk (by omega)) d_Code_append_25 (fun H locs hP hD hS => ?_)
      have hP : va_P (dC, dI) classes [(c0, .inr (2, [.ref a0, .int n])), (a0, .inl (cC, 8, .inl (upd fa (n : Int32).toNatClampNeg (v))))] H := hP
      have hD : va_D A [(c0, .inr (2, [.ref a0, .int n])), (a0, .inl (cC, 8, .inl (upd fa (n : Int32).toNatClampNeg (v))))] := hD
      generalize upd fa (n : Int32).toNatClampNeg (v) = f1 at hP hD
      refine lv_aload_n hx hb d_Code_append_26 rfl (lv_at hl 0 rfl) ?_
      refine lv_dup hx hb d_Code_append_27 rfl ?_
      refine va_get (D := (dC, dI)) (ci := 2) (v := .int n) (C := R_CO) (T := T_CO) (N := 2) hx hb hts in_Code_append_CO hown hK hP 0 rfl rfl 1 (by decide) (hts (.fieldLink "Leastcode$Code" 15 "Leastcode$Code" "length" "I") (List.mem_of_getElem? (i := 3) rfl)) (fun _ h9 => h9) rfl d_Code_append_28 ?_
      refine lv_iconst (v := 1) hx hb d_Code_append_31 (by decide) ?_
      refine lv_iadd hx hb d_Code_append_32 ?_
      refine lv_topi (fun x2 ex2 => ?_)
      refine va_put (D := (dC, dI)) (ci := 2) (v := .int x2) (ty := .int) (C := R_CO) (T := T_CO) (N := 2) hx hb hts in_Code_append_CO t_CO t_CO_ok n_CO hown hK hP hD hS 0 rfl rfl 1 (by decide) (hts (.fieldLink "Leastcode$Code" 15 "Leastcode$Code" "length" "I") (List.mem_of_getElem? (i := 3) rfl)) (fun _ h9 => h9) rfl (by decide +kernel) rfl rfl (Nat.le_of_ble_eq_true rfl) d_Code_append_33 (fun H locs hP hD hS => ?_)
      have hP : va_P (dC, dI) classes [(c0, .inr (2, [.ref a0, .int x2])), (a0, .inl (cC, 8, .inl (f1)))] H := hP
      have hD : va_D A [(c0, .inr (2, [.ref a0, .int x2])), (a0, .inl (cC, 8, .inl (f1)))] := hD
      have hP9 : va_P (dC, dI) classes [(c0, .inr (2, [.ref a0, .int x2])), (a0, .inl (cC, 8, .inl (f1)))] H := hP.sub (ws' := [(c0, .inr (2, [.ref a0, .int x2])), (a0, .inl (cC, 8, .inl (f1)))]) [0, 1] rfl
      have hD9 := hD.sub (ws' := [(c0, .inr (2, [.ref a0, .int x2])), (a0, .inl (cC, 8, .inl (f1)))]) [0, 1] (by decide) rfl
      have hK9 := hK.sub (tys' := [(cC, .int)]) [0] rfl
      refine W.widen (k := 0) (n := 0) (by omega) (by omega) ?_
      exact W.vret hx hb hr (fun t ht hW => ⟨⟨(), rfl, trivial, ⟨x2, ⟨f1, ⟨by rw [ht]; exact hP9, va_K.moved hW.alike hK9, hD9, (by rw [ex2, hnk]; exact nI_1 k)⟩⟩⟩⟩, hS.F ht⟩) hS.2.2 d_Code_append_36

abbrev rm_LC_add : Room := { frames := 5, cells := 0, slots := 0, locals := 106 }
abbrev b_LC_add : ByteArray := prog_1_method_3_code
def y_LC_add : MethodName := ⟨"Leastcode", "add", "(ICII)I"⟩
def w_LC_add : List Cond := [.code ⟨"Leastcode", "add", "(ICII)I"⟩ prog_1_method_3_code 7 (some .int), .methodLink "Leastcode" 88 ⟨"Leastcode", "programAt", "(I)LLeastcode$Code;"⟩, .instanceMethod ⟨"Leastcode", "programAt", "(I)LLeastcode$Code;"⟩, .selects "Leastcode" ⟨"Leastcode", "programAt", "(I)LLeastcode$Code;"⟩ ⟨"Leastcode", "programAt", "(I)LLeastcode$Code;"⟩, .initialized "Leastcode", .code ⟨"Leastcode", "programAt", "(I)LLeastcode$Code;"⟩ prog_1_method_40_code 2 (some (.object "Leastcode$Code")), .laysFinal "Leastcode" "Leastcode" "machine" "LLeastcode$Machine;", .laysFinal "Leastcode" "Leastcode" "prices" "LLeastcode$Prices;", .laysFinal "Leastcode" "Leastcode" "lots" "LLeastcode$Lots;", .laysFinal "Leastcode" "Leastcode" "search" "LLeastcode$Search;", .laysFinal "Leastcode" "Leastcode" "programs" "[LLeastcode$Code;", .lays "Leastcode" "Leastcode" "programCount" "I", .laysFinal "Leastcode" "Leastcode" "goals" "[LLeastcode$Goal;", .lays "Leastcode" "Leastcode" "goalCount" "I", .laysFinal "Leastcode" "Leastcode" "rules" "[LLeastcode$Rule;", .lays "Leastcode" "Leastcode" "ruleCount" "I", .laysFinal "Leastcode" "Leastcode" "killed" "[I", .laysFinal "Leastcode" "Leastcode" "unlikeUpTo" "[I", .laysFinal "Leastcode" "Leastcode" "found" "LLeastcode$Code;", .lays "Leastcode" "Leastcode" "hasFound" "Z", .laysFinal "Leastcode" "Leastcode" "draft" "LLeastcode$Code;", .laysFinal "Leastcode" "Leastcode" "shorter" "LLeastcode$Code;", .laysFinal "Leastcode" "Leastcode" "windowGoal" "LLeastcode$Goal;", .fieldLink "Leastcode" 84 "Leastcode" "programCount" "I", .fieldLink "Leastcode" 41 "Leastcode" "programs" "[LLeastcode$Code;", .methodLink "Leastcode" 92 ⟨"Leastcode", "kindAt", "(C)I"⟩, .static ⟨"Leastcode", "kindAt", "(C)I"⟩, .code ⟨"Leastcode", "kindAt", "(C)I"⟩ prog_1_method_42_code 2 (some .int), .methodLink "Leastcode" 307 ⟨"java/lang/String", "length", "()I"⟩, .instanceMethod ⟨"java/lang/String", "length", "()I"⟩, .selects "java/lang/String" ⟨"java/lang/String", "length", "()I"⟩ ⟨"java/lang/String", "length", "()I"⟩, .initialized "java/lang/String", .code ⟨"java/lang/String", "length", "()I"⟩ prog_34_method_54_code 1 (some .int), .fieldLink "java/lang/String" 9 "java/lang/String" "value" "[B", .methodLink "java/lang/String" 335 ⟨"java/lang/String", "coder", "()B"⟩, .instanceMethod ⟨"java/lang/String", "coder", "()B"⟩, .selects "java/lang/String" ⟨"java/lang/String", "coder", "()B"⟩ ⟨"java/lang/String", "coder", "()B"⟩, .code ⟨"java/lang/String", "coder", "()B"⟩ prog_34_method_152_code 1 (some .byte), .fieldLink "java/lang/String" 38 "java/lang/String" "COMPACT_STRINGS" "Z", .fieldLink "java/lang/String" 15 "java/lang/String" "coder" "B", .methodLink "Leastcode" 310 ⟨"java/lang/String", "charAt", "(I)C"⟩, .instanceMethod ⟨"java/lang/String", "charAt", "(I)C"⟩, .selects "java/lang/String" ⟨"java/lang/String", "charAt", "(I)C"⟩ ⟨"java/lang/String", "charAt", "(I)C"⟩, .code ⟨"java/lang/String", "charAt", "(I)C"⟩ prog_34_method_56_code 2 (some .char), .methodLink "java/lang/String" 492 ⟨"java/lang/String", "isLatin1", "()Z"⟩, .instanceMethod ⟨"java/lang/String", "isLatin1", "()Z"⟩, .selects "java/lang/String" ⟨"java/lang/String", "isLatin1", "()Z"⟩ ⟨"java/lang/String", "isLatin1", "()Z"⟩, .code ⟨"java/lang/String", "isLatin1", "()Z"⟩ prog_34_method_154_code 1 (some .boolean), .methodLink "java/lang/String" 495 ⟨"java/lang/StringLatin1", "charAt", "([BI)C"⟩, .static ⟨"java/lang/StringLatin1", "charAt", "([BI)C"⟩, .initialized "java/lang/StringLatin1", .code ⟨"java/lang/StringLatin1", "charAt", "([BI)C"⟩ prog_36_method_2_code 2 (some .char), .methodLink "java/lang/StringLatin1" 9 ⟨"java/lang/String", "checkIndex", "(II)V"⟩, .static ⟨"java/lang/String", "checkIndex", "(II)V"⟩, .code ⟨"java/lang/String", "checkIndex", "(II)V"⟩ prog_34_method_155_code 2 none, .fieldLink "java/lang/String" 1053 "jdk/internal/util/Preconditions" "SIOOBE_FORMATTER" "Ljava/util/function/BiFunction;", .methodLink "java/lang/String" 1059 ⟨"jdk/internal/util/Preconditions", "checkIndex", "(IILjava/util/function/BiFunction;)I"⟩, .static ⟨"jdk/internal/util/Preconditions", "checkIndex", "(IILjava/util/function/BiFunction;)I"⟩, .initialized "jdk/internal/util/Preconditions", .code ⟨"jdk/internal/util/Preconditions", "checkIndex", "(IILjava/util/function/BiFunction;)I"⟩ prog_81_method_11_code 3 (some .int), .methodLink "Leastcode" 96 ⟨"Leastcode$Machine", "numberOf", "(III)I"⟩, .static ⟨"Leastcode$Machine", "numberOf", "(III)I"⟩, .initialized "Leastcode$Machine", .code ⟨"Leastcode$Machine", "numberOf", "(III)I"⟩ prog_6_method_2_code 3 (some .int), .methodLink "Leastcode" 107 ⟨"Leastcode$Code", "length", "()I"⟩, .instanceMethod ⟨"Leastcode$Code", "length", "()I"⟩, .selects "Leastcode$Code" ⟨"Leastcode$Code", "length", "()I"⟩ ⟨"Leastcode$Code", "length", "()I"⟩, .initialized "Leastcode$Code", .code ⟨"Leastcode$Code", "length", "()I"⟩ prog_2_method_2_code 1 (some .int), .laysFinal "Leastcode$Code" "Leastcode$Code" "numbers" "[I", .lays "Leastcode$Code" "Leastcode$Code" "length" "I", .fieldLink "Leastcode$Code" 15 "Leastcode$Code" "length" "I", .methodLink "Leastcode" 116 ⟨"Leastcode$Code", "append", "(I)V"⟩, .instanceMethod ⟨"Leastcode$Code", "append", "(I)V"⟩, .selects "Leastcode$Code" ⟨"Leastcode$Code", "append", "(I)V"⟩ ⟨"Leastcode$Code", "append", "(I)V"⟩, .code ⟨"Leastcode$Code", "append", "(I)V"⟩ prog_2_method_6_code 2 none, .fieldLink "Leastcode$Code" 9 "Leastcode$Code" "numbers" "[I"]
theorem d_LC_add_0 : decode b_LC_add 0 = .ok (.aload_n 0, 1) := by decide +kernel
theorem d_LC_add_1 : decode b_LC_add 1 = .ok (.iload_n 1, 1) := by decide +kernel
theorem d_LC_add_2 : decode b_LC_add 2 = .ok (.invokevirtual 88, 3) := by decide +kernel
theorem d_LC_add_5 : decode b_LC_add 5 = .ok (.astore 5, 2) := by decide +kernel
theorem d_LC_add_7 : decode b_LC_add 7 = .ok (.iload_n 2, 1) := by decide +kernel
theorem d_LC_add_8 : decode b_LC_add 8 = .ok (.invokestatic 92, 3) := by decide +kernel
theorem d_LC_add_11 : decode b_LC_add 11 = .ok (.iload_n 3, 1) := by decide +kernel
theorem d_LC_add_12 : decode b_LC_add 12 = .ok (.iload 4, 2) := by decide +kernel
theorem d_LC_add_14 : decode b_LC_add 14 = .ok (.invokestatic 96, 3) := by decide +kernel
theorem d_LC_add_17 : decode b_LC_add 17 = .ok (.istore 6, 2) := by decide +kernel
theorem d_LC_add_19 : decode b_LC_add 19 = .ok (.iload 6, 2) := by decide +kernel
theorem d_LC_add_21 : decode b_LC_add 21 = .ok (.iconst (-1), 1) := by decide +kernel
theorem d_LC_add_22 : decode b_LC_add 22 = .ok (.if_icmp .ne 13, 3) := by decide +kernel
theorem d_LC_add_35 : decode b_LC_add 35 = .ok (.aload 5, 2) := by decide +kernel
theorem d_LC_add_37 : decode b_LC_add 37 = .ok (.invokevirtual 107, 3) := by decide +kernel
theorem d_LC_add_40 : decode b_LC_add 40 = .ok (.bipush 8, 2) := by decide +kernel
theorem d_LC_add_42 : decode b_LC_add 42 = .ok (.if_icmp .lt 13, 3) := by decide +kernel
theorem d_LC_add_55 : decode b_LC_add 55 = .ok (.aload 5, 2) := by decide +kernel
theorem d_LC_add_57 : decode b_LC_add 57 = .ok (.iload 6, 2) := by decide +kernel
theorem d_LC_add_59 : decode b_LC_add 59 = .ok (.invokevirtual 116, 3) := by decide +kernel
theorem d_LC_add_62 : decode b_LC_add 62 = .ok (.aload 5, 2) := by decide +kernel
theorem d_LC_add_64 : decode b_LC_add 64 = .ok (.invokevirtual 107, 3) := by decide +kernel
theorem d_LC_add_67 : decode b_LC_add 67 = .ok (.ireturn, 1) := by decide +kernel
set_option maxRecDepth 20000 in
theorem g_LC_add_2 : GoodIn w_LC_add (wsV "Leastcode" 88 "Leastcode" ⟨"Leastcode", "programAt", "(I)LLeastcode$Code;"⟩ w_programAt) := goodIn_r _ [1, 2, 3, 4, 5, 6, 7, 8, 9, 10, 11, 12, 13, 14, 15, 16, 17, 18, 19, 20, 21, 22, 23, 24] rfl (by decide +kernel)
set_option maxRecDepth 20000 in
theorem g_LC_add_8 : GoodIn w_LC_add (wsS "Leastcode" 92 ⟨"Leastcode", "kindAt", "(C)I"⟩ w_kindAt) := goodIn_r _ [25, 26, 4, 27, 28, 29, 30, 31, 32, 33, 34, 35, 36, 37, 38, 39, 40, 41, 42, 43, 44, 45, 46, 47, 48, 49, 50, 51, 52, 53, 54, 55, 56, 57, 58, 59] rfl (by decide +kernel)
set_option maxRecDepth 20000 in
theorem g_LC_add_14 : GoodIn w_LC_add (va_wsS "Leastcode" 96 ⟨"Leastcode$Machine", "numberOf", "(III)I"⟩ w_numberOf15) := goodIn_r _ [60, 61, 62, 63] rfl (by decide +kernel)
set_option maxRecDepth 20000 in
theorem g_LC_add_37 : GoodIn w_LC_add (wsV "Leastcode" 107 "Leastcode$Code" ⟨"Leastcode$Code", "length", "()I"⟩ w_Code_length) := goodIn_r _ [64, 65, 66, 67, 68, 69, 70, 71] rfl (by decide +kernel)
set_option maxRecDepth 20000 in
theorem g_LC_add_59 : GoodIn w_LC_add (wsV "Leastcode" 116 "Leastcode$Code" ⟨"Leastcode$Code", "append", "(I)V"⟩ w_Code_append) := goodIn_r _ [72, 73, 74, 67, 75, 69, 70, 71, 76] rfl (by decide +kernel)
set_option maxRecDepth 20000 in
theorem g_LC_add_64 : GoodIn w_LC_add (wsV "Leastcode" 107 "Leastcode$Code" ⟨"Leastcode$Code", "length", "()I"⟩ w_Code_length) := goodIn_r _ [64, 65, 66, 67, 68, 69, 70, 71] rfl (by decide +kernel)
set_option maxHeartbeats 4000000 in
set_option maxRecDepth 100000 in
theorem c_LC_add (l : Launch) (dC : Nat → ClassId) (dI : Nat → Nat → Nat) (sa : Nat) (va : Nat) (h0 : Nat) (qm : Nat) (qp : Nat) (y1 : Nat) (y2 : Nat) (y3 : Nat) (y4 : Nat) (y5 : Nat) (y6 : Nat) (y7 : Nat) (y8 : Nat) (y9 : Nat) (y10 : Nat) (y11 : Nat) (cB : ClassId) (fp : Nat → Option Nat) (c0 : Nat) (a0 : Nat) (n : Int32) (cC : ClassId) (fa : Nat → Int32) (k : Nat) (hf : fp 0 = some c0) (hk : k < 8) (hnk : n = nI k) (sz : Nat) : Met l y_LC_add w_LC_add rm_LC_add (va_Pc [.ref h0, .int 0, .int 102, .int 0, .int 0] (fun U => U.heap.size = sz ∧ va_P (dC, dI) classes [(h0, .inr (0, [.ref qm, .ref y1, .ref y2, .ref y3, .ref qp, .int 1, .ref y4, .int 0, .ref y5, .int 0, .ref y6, .ref y7, .ref y8, .int 0, .ref y9, .ref y10, .ref y11])), (qp, .inl (cB, 8, .inr (.inr (.inr (.inr (fp)))))), (c0, .inr (2, [.ref a0, .int n])), (a0, .inl (cC, 8, .inl (fa)))] U.heap ∧ va_K (dC, dI) classes [(cB, .object "Leastcode$Code"), (cC, .int)] U ∧ va_D (fun _ => True) [(h0, .inr (0, [.ref qm, .ref y1, .ref y2, .ref y3, .ref qp, .int 1, .ref y4, .int 0, .ref y5, .int 0, .ref y6, .ref y7, .ref y8, .int 0, .ref y9, .ref y10, .ref y11])), (qp, .inl (cB, 8, .inr (.inr (.inr (.inr (fp)))))), (c0, .inr (2, [.ref a0, .int n])), (a0, .inl (cC, 8, .inl (fa)))] ∧ va_O "java/lang/String" sa (va_A [(h0, .inr (0, [.ref qm, .ref y1, .ref y2, .ref y3, .ref qp, .int 1, .ref y4, .int 0, .ref y5, .int 0, .ref y6, .ref y7, .ref y8, .int 0, .ref y9, .ref y10, .ref y11])), (qp, .inl (cB, 8, .inr (.inr (.inr (.inr (fp)))))), (c0, .inr (2, [.ref a0, .int n])), (a0, .inl (cC, 8, .inl (fa)))] sz) U U.heap ∧ va_OF "java/lang/String" "value" "[B" (.ref va) sa (va_A [(h0, .inr (0, [.ref qm, .ref y1, .ref y2, .ref y3, .ref qp, .int 1, .ref y4, .int 0, .ref y5, .int 0, .ref y6, .ref y7, .ref y8, .int 0, .ref y9, .ref y10, .ref y11])), (qp, .inl (cB, 8, .inr (.inr (.inr (.inr (fp)))))), (c0, .inr (2, [.ref a0, .int n])), (a0, .inl (cC, 8, .inl (fa)))] sz) U U.heap ∧ va_OF "java/lang/String" "coder" "B" (.int 0) sa (va_A [(h0, .inr (0, [.ref qm, .ref y1, .ref y2, .ref y3, .ref qp, .int 1, .ref y4, .int 0, .ref y5, .int 0, .ref y6, .ref y7, .ref y8, .int 0, .ref y9, .ref y10, .ref y11])), (qp, .inl (cB, 8, .inr (.inr (.inr (.inr (fp)))))), (c0, .inr (2, [.ref a0, .int n])), (a0, .inl (cC, 8, .inl (fa)))] sz) U U.heap ∧ va_T .byte va 16 kb (va_A [(h0, .inr (0, [.ref qm, .ref y1, .ref y2, .ref y3, .ref qp, .int 1, .ref y4, .int 0, .ref y5, .int 0, .ref y6, .ref y7, .ref y8, .int 0, .ref y9, .ref y10, .ref y11])), (qp, .inl (cB, 8, .inr (.inr (.inr (.inr (fp)))))), (c0, .inr (2, [.ref a0, .int n])), (a0, .inl (cC, 8, .inl (fa)))] sz) U U.heap ∧ va_Z "java/lang/String" "COMPACT_STRINGS" "Z" (.int 1) (va_A [(h0, .inr (0, [.ref qm, .ref y1, .ref y2, .ref y3, .ref qp, .int 1, .ref y4, .int 0, .ref y5, .int 0, .ref y6, .ref y7, .ref y8, .int 0, .ref y9, .ref y10, .ref y11])), (qp, .inl (cB, 8, .inr (.inr (.inr (.inr (fp)))))), (c0, .inr (2, [.ref a0, .int n])), (a0, .inl (cC, 8, .inl (fa)))] sz) U U.heap ∧ va_Zq "jdk/internal/util/Preconditions" "SIOOBE_FORMATTER" "Ljava/util/function/BiFunction;" (va_A [(h0, .inr (0, [.ref qm, .ref y1, .ref y2, .ref y3, .ref qp, .int 1, .ref y4, .int 0, .ref y5, .int 0, .ref y6, .ref y7, .ref y8, .int 0, .ref y9, .ref y10, .ref y11])), (qp, .inl (cB, 8, .inr (.inr (.inr (.inr (fp)))))), (c0, .inr (2, [.ref a0, .int n])), (a0, .inl (cC, 8, .inl (fa)))] sz) U U.heap ∧ vk_R "Leastcode" 305 "masnoxkcidlrtzbf" sa U)) (va_Qi (fun r (_ : Unit) => r = nI (k + 1)) (fun _ t => ∃ n1 : Int32, ∃ f1 : Nat → Int32, va_P (dC, dI) classes [(h0, .inr (0, [.ref qm, .ref y1, .ref y2, .ref y3, .ref qp, .int 1, .ref y4, .int 0, .ref y5, .int 0, .ref y6, .ref y7, .ref y8, .int 0, .ref y9, .ref y10, .ref y11])), (qp, .inl (cB, 8, .inr (.inr (.inr (.inr (fp)))))), (c0, .inr (2, [.ref a0, .int n1])), (a0, .inl (cC, 8, .inl (f1)))] t.heap ∧ va_K (dC, dI) classes [(cB, .object "Leastcode$Code"), (cC, .int)] t ∧ va_D (va_A [(h0, .inr (0, [.ref qm, .ref y1, .ref y2, .ref y3, .ref qp, .int 1, .ref y4, .int 0, .ref y5, .int 0, .ref y6, .ref y7, .ref y8, .int 0, .ref y9, .ref y10, .ref y11])), (qp, .inl (cB, 8, .inr (.inr (.inr (.inr (fp)))))), (c0, .inr (2, [.ref a0, .int n])), (a0, .inl (cC, 8, .inl (fa)))] sz) [(h0, .inr (0, [.ref qm, .ref y1, .ref y2, .ref y3, .ref qp, .int 1, .ref y4, .int 0, .ref y5, .int 0, .ref y6, .ref y7, .ref y8, .int 0, .ref y9, .ref y10, .ref y11])), (qp, .inl (cB, 8, .inr (.inr (.inr (.inr (fp)))))), (c0, .inr (2, [.ref a0, .int n1])), (a0, .inl (cC, 8, .inl (f1)))] ∧ n1 = nI (k + 1)) (va_A [(h0, .inr (0, [.ref qm, .ref y1, .ref y2, .ref y3, .ref qp, .int 1, .ref y4, .int 0, .ref y5, .int 0, .ref y6, .ref y7, .ref y8, .int 0, .ref y9, .ref y10, .ref y11])), (qp, .inl (cB, 8, .inr (.inr (.inr (.inr (fp)))))), (c0, .inr (2, [.ref a0, .int n])), (a0, .inl (cC, 8, .inl (fa)))] sz)) 0 0 (va_A [(h0, .inr (0, [.ref qm, .ref y1, .ref y2, .ref y3, .ref qp, .int 1, .ref y4, .int 0, .ref y5, .int 0, .ref y6, .ref y7, .ref y8, .int 0, .ref y9, .ref y10, .ref y11])), (qp, .inl (cB, 8, .inr (.inr (.inr (.inr (fp)))))), (c0, .inr (2, [.ref a0, .int n])), (a0, .inl (cC, 8, .inl (fa)))] sz) := by
  refine Met.ofW (cc := b_LC_add) (maxL := 7) (ret := (some .int)) (by decide) rfl ?_
  intro p e s m args below meth c s₁ B hml hv
  obtain ⟨rfl, hsz, hP, hK, hD0, hE0, hE1, hE2, hE3, hE4, hE5, hE6⟩ := hv
  have hx := B.exec
  have hb := B.bytes
  have hr := B.returns
  have hts := atoms_spec (ws := w_LC_add) B.pre
  have hown : s.vm.findClass "Leastcode" = some m.cls := findClass_of_methodNamed B.named
  have hlocks := B.notSynchronized
  subst hsz
  have hD := hD0.self (sz := s.heap.size)
  generalize hAe : va_A [(h0, .inr (0, [.ref qm, .ref y1, .ref y2, .ref y3, .ref qp, .int 1, .ref y4, .int 0, .ref y5, .int 0, .ref y6, .ref y7, .ref y8, .int 0, .ref y9, .ref y10, .ref y11])), (qp, .inl (cB, 8, .inr (.inr (.inr (.inr (fp)))))), (c0, .inr (2, [.ref a0, .int n])), (a0, .inl (cC, 8, .inl (fa)))] s.heap.size = A at hD hE0 hE1 hE2 hE3 hE4 hE5 hE6 ⊢
  have hA : ∀ q : Nat, s.heap.size ≤ q → A q := fun q h => by rw [← hAe]; exact Or.inr h
  have hS : va_S A s.heap s.heap [] := va_S.rf
  have hP : va_P (dC, dI) classes [(h0, .inr (0, [.ref qm, .ref y1, .ref y2, .ref y3, .ref qp, .int 1, .ref y4, .int 0, .ref y5, .int 0, .ref y6, .ref y7, .ref y8, .int 0, .ref y9, .ref y10, .ref y11])), (qp, .inl (cB, 8, .inr (.inr (.inr (.inr (fp)))))), (c0, .inr (2, [.ref a0, .int n])), (a0, .inl (cC, 8, .inl (fa)))] s.heap := hP
  have hl := lv_entry ([.ref h0, .int 0, .int 102, .int 0, .int 0]) (n := 7) (Nat.le_of_ble_eq_true rfl)
  rw [lg_entry_eq]
  generalize (lg_sl ([.ref h0, .int 0, .int 102, .int 0, .int 0]) ++ List.replicate (7 - (lg_sl ([.ref h0, .int 0, .int 102, .int 0, .int 0])).length) Slot.unset).toArray = ls at hl ⊢
  have hl : lv_has ls 7 [(0, .ref h0), (1, .int 0), (2, .int 102), (3, .int 0), (4, .int 0)] := hl
  refine lv_aload_n hx hb d_LC_add_0 rfl (lv_at hl 0 rfl) ?_
  refine lv_iload_n hx hb d_LC_add_1 rfl (lv_at hl 1 rfl) ?_
  have hPc : va_P (dC, dI) classes [(h0, .inr (0, [.ref qm, .ref y1, .ref y2, .ref y3, .ref qp, .int 1, .ref y4, .int 0, .ref y5, .int 0, .ref y6, .ref y7, .ref y8, .int 0, .ref y9, .ref y10, .ref y11])), (qp, .inl (cB, 8, .inr (.inr (.inr (.inr (fp))))))] _ := hP.sub (ws' := [(h0, .inr (0, [.ref qm, .ref y1, .ref y2, .ref y3, .ref qp, .int 1, .ref y4, .int 0, .ref y5, .int 0, .ref y6, .ref y7, .ref y8, .int 0, .ref y9, .ref y10, .ref y11])), (qp, .inl (cB, 8, .inr (.inr (.inr (.inr (fp))))))]) [0, 1] rfl
  have hKc : va_K (dC, dI) classes [(cB, .object "Leastcode$Code")] s := hK.sub (tys' := [(cB, .object "Leastcode$Code")]) [0] rfl
  refine va_csr (W.runV (As := [.int 0]) (rest := []) ⟨hx, hb, hml, hown, hts⟩ (c_programAt l dC dI h0 qm qp y1 y2 y3 y4 y5 y6 y7 y8 y9 y10 y11 cB fp c0 hf) (cwV 1 hts g_LC_add_2 rfl rfl rfl (by decide +kernel) ⟨Nat.le_of_ble_eq_true rfl, Nat.le_of_ble_eq_true rfl⟩) ⟨fun a U g mk z => by obtain ⟨z0, zP, zK⟩ := z; exact ⟨z0, zP, va_K.moved (u := U) (U := U.calling g mk a) (Vm.Alike.refl U.vm) zK⟩, va_recv hKc hPc (ci := 0) (q0 := 0) rfl rfl, fun U hU hW => ⟨rfl, by rw [hU]; exact hPc, va_K.moved hW.alike hKc⟩⟩ rfl rfl hl.1 rfl (lv_room (Nat.le_of_ble_eq_true rfl)) d_LC_add_2 ⟨(Nat.le_of_ble_eq_true rfl), (Nat.le_of_ble_eq_true rfl)⟩) (fun r1 hr1 => ?_)
  replace hr1 := hr1.symm; subst hr1
  refine lv_astore (lv' := [(5, .ref c0), (0, .ref h0), (1, .int 0), (2, .int 102), (3, .int 0), (4, .int 0)]) hx hb d_LC_add_5 hl (by decide) rfl (fun ls hl => ?_)
  refine lv_iload_n hx hb d_LC_add_7 rfl (lv_at hl 3 rfl) ?_
  refine vp_callSi (W.runS (As := [.int 102]) (rest := []) ⟨hx, hb, hml, hown, hts⟩ (c_kindAt l sa va) (cwS 1 hts g_LC_add_8 rfl rfl rfl (by decide +kernel) ⟨Nat.le_of_ble_eq_true rfl, Nat.le_of_ble_eq_true rfl⟩) ⟨fun a U g mk z => by obtain ⟨z0, zE0, zE1, zE2, zE3, zE4, zE5, zE6⟩ := z; exact ⟨z0, zE0.moved (u := U) (U := U.calling g mk a) (Vm.Alike.refl U.vm), zE1.moved (u := U) (U := U.calling g mk a) (Vm.Alike.refl U.vm), zE2.moved (u := U) (U := U.calling g mk a) (Vm.Alike.refl U.vm), zE3.moved (u := U) (U := U.calling g mk a) (Vm.Alike.refl U.vm), zE4.moved (u := U) (U := U.calling g mk a) (Vm.Alike.refl U.vm), zE5.moved (u := U) (U := U.calling g mk a) (Vm.Alike.refl U.vm), vk_R.same (u := U) (U := U.calling g mk a) rfl zE6⟩, fun U hU hW => ⟨rfl, by (try dsimp only); rw [hU]; exact ((hE0.kept (fun a h1 h2 => hS.2.1 a h1 h2)).narrow (B := fun _ => False) (fun _ h => h.elim)).moved hW.alike, by (try dsimp only); rw [hU]; exact ((hE1.kept (fun a h1 h2 => hS.2.1 a h1 h2)).narrow (B := fun _ => False) (fun _ h => h.elim)).moved hW.alike, by (try dsimp only); rw [hU]; exact ((hE2.kept (fun a h1 h2 => hS.2.1 a h1 h2)).narrow (B := fun _ => False) (fun _ h => h.elim)).moved hW.alike, by (try dsimp only); rw [hU]; exact ((hE3.kept (fun a h1 h2 => hS.2.1 a h1 h2)).narrow (B := fun _ => False) (fun _ h => h.elim)).moved hW.alike, by (try dsimp only); rw [hU]; exact ((hE4.kept (fun a h1 h2 => hS.2.1 a h1 h2)).narrow (B := fun _ => False) (fun _ h => h.elim)).moved hW.alike, by (try dsimp only); rw [hU]; exact ((hE5.kept (fun a h1 h2 => hS.2.1 a h1 h2)).narrow (B := fun _ => False) (fun _ h => h.elim)).moved hW.alike, vk_R.warm hW hE6⟩⟩ rfl rfl hl.1 rfl (lv_room (Nat.le_of_ble_eq_true rfl)) d_LC_add_8 ⟨(Nat.le_of_ble_eq_true rfl), (Nat.le_of_ble_eq_true rfl)⟩) (fun r2 hr2 => ?_)
  replace hr2 := hr2.symm; subst hr2
  refine lv_iload_n hx hb d_LC_add_11 rfl (lv_at hl 4 rfl) ?_
  refine lv_iload hx hb d_LC_add_12 (lv_at hl 5 rfl) ?_
  refine vp_callSi (W.runS (As := [.int 15, .int 0, .int 0]) (rest := []) ⟨hx, hb, hml, hown, hts⟩ (c_numberOf15 l ) (va_cwS 3 hts g_LC_add_14 rfl rfl rfl (by decide +kernel) ⟨Nat.le_of_ble_eq_true rfl, Nat.le_of_ble_eq_true rfl⟩) ⟨fun a U g mk z => z, fun U hU hW => ⟨rfl, trivial⟩⟩ rfl rfl hl.1 rfl (lv_room (Nat.le_of_ble_eq_true rfl)) d_LC_add_14 ⟨(Nat.le_of_ble_eq_true rfl), (Nat.le_of_ble_eq_true rfl)⟩) (fun r3 hr3 => ?_)
  replace hr3 := hr3.symm; subst hr3
  refine lv_istore (lv' := [(6, .int 46), (5, .ref c0), (0, .ref h0), (1, .int 0), (2, .int 102), (3, .int 0), (4, .int 0)]) hx hb d_LC_add_17 hl (by decide) rfl (fun ls hl => ?_)
  refine lv_iload hx hb d_LC_add_19 (lv_at hl 0 rfl) ?_
  refine lv_iconst (v := (-1)) hx hb d_LC_add_21 (by decide) ?_
  refine lv_icmp_ne (tgt := 35) hx hb d_LC_add_22 (by decide) (fun c_22 => ?_) (fun c_22 => ?_)
  · skip
    refine lv_aload hx hb d_LC_add_35 (lv_at hl 1 rfl) ?_
    have hPc : va_P (dC, dI) classes [(c0, .inr (2, [.ref a0, .int n]))] _ := hP.sub (ws' := [(c0, .inr (2, [.ref a0, .int n]))]) [2] rfl
    have hKc : va_K (dC, dI) classes [] s := hK.sub (tys' := []) [] rfl
    refine vp_callSi (W.runV (As := []) (rest := []) ⟨hx, hb, hml, hown, hts⟩ (c_Code_length l dC dI c0 a0 n) (cwV 0 hts g_LC_add_37 rfl rfl rfl (by decide +kernel) ⟨Nat.le_of_ble_eq_true rfl, Nat.le_of_ble_eq_true rfl⟩) ⟨fun a U g mk z => by obtain ⟨z0, zP, zK⟩ := z; exact ⟨z0, zP, va_K.moved (u := U) (U := U.calling g mk a) (Vm.Alike.refl U.vm) zK⟩, va_recv hKc hPc (ci := 2) (q0 := 0) rfl rfl, fun U hU hW => ⟨rfl, by rw [hU]; exact hPc, va_K.moved hW.alike hKc⟩⟩ rfl rfl hl.1 rfl (lv_room (Nat.le_of_ble_eq_true rfl)) d_LC_add_37 ⟨(Nat.le_of_ble_eq_true rfl), (Nat.le_of_ble_eq_true rfl)⟩) (fun r4 hr4 => ?_)
    replace hr4 := hr4.symm; subst hr4
    refine lv_bipush (v := 8) hx hb d_LC_add_40 (by decide) ?_
    refine lv_icmp_lt (tgt := 55) hx hb d_LC_add_42 (by decide) (fun c_42 => ?_) (fun c_42 => ?_)
    · skip
      refine lv_aload hx hb d_LC_add_55 (lv_at hl 1 rfl) ?_
      refine lv_iload hx hb d_LC_add_57 (lv_at hl 0 rfl) ?_
      have hPc : va_P (dC, dI) classes [(c0, .inr (2, [.ref a0, .int n])), (a0, .inl (cC, 8, .inl (fa)))] _ := hP.sub (ws' := [(c0, .inr (2, [.ref a0, .int n])), (a0, .inl (cC, 8, .inl (fa)))]) [2, 3] rfl
      have hKc : va_K (dC, dI) classes [(cC, .int)] s := hK.sub (tys' := [(cC, .int)]) [1] rfl
      have hDc : va_D _ [(c0, .inr (2, [.ref a0, .int n])), (a0, .inl (cC, 8, .inl (fa)))] := hD.sub (ws' := [(c0, .inr (2, [.ref a0, .int n])), (a0, .inl (cC, 8, .inl (fa)))]) [2, 3] (by decide) rfl
      have hFc := va_free (wc := [(c0, .inr (2, [.ref a0, .int n])), (a0, .inl (cC, 8, .inl (fa)))]) hD hS hA [2, 3] rfl
      refine va_callv (va_runV (As := [.int 46]) (rest := []) ⟨hx, hb, hml, hown, hts⟩ (c_Code_append l dC dI c0 a0 n cC fa 46 k hk hnk s.heap.size) (cwV 1 hts g_LC_add_59 rfl rfl rfl (by decide +kernel) ⟨Nat.le_of_ble_eq_true rfl, Nat.le_of_ble_eq_true rfl⟩) ⟨fun a U g mk z => by obtain ⟨z0, z1, zP, zK, zD⟩ := z; exact ⟨z0, z1, zP, va_K.moved (u := U) (U := U.calling g mk a) (Vm.Alike.refl U.vm) zK, zD⟩, va_recv hKc hPc (ci := 2) (q0 := 0) rfl rfl, fun U hU hW => ⟨rfl, by rw [hU], by rw [hU]; exact hPc, va_K.moved hW.alike hKc, hDc.weaken (fun _ _ _ _ => trivial)⟩⟩ rfl rfl hl.1 rfl (lv_room (Nat.le_of_ble_eq_true rfl)) d_LC_add_59 ⟨(Nat.le_of_ble_eq_true rfl), (Nat.le_of_ble_eq_true rfl)⟩) hS (fun q _ h => hFc q h) hFc (fun u t H1 locs ht hvm hr5 hB hz1 hk1 hS => ?_)
      obtain ⟨n6, f7, hP1, hK1, hD1, hpr5_0⟩ := hB
      rw [ht] at hP1
      have hK1 := va_K.moved hvm.symm hK1
      obtain ⟨hP, hD⟩ := va_join (wr := [(h0, .inr (0, [.ref qm, .ref y1, .ref y2, .ref y3, .ref qp, .int 1, .ref y4, .int 0, .ref y5, .int 0, .ref y6, .ref y7, .ref y8, .int 0, .ref y9, .ref y10, .ref y11])), (qp, .inl (cB, 8, .inr (.inr (.inr (.inr (fp))))))]) (w1 := [(c0, .inr (2, [.ref a0, .int n6])), (a0, .inl (cC, 8, .inl (f7)))]) hP hD [2, 3] [0, 1] rfl rfl (by decide) (by decide) hk1 hFc hP1 hD1
      clear hPc hDc hKc hFc hP1 hD1 hK1 hk1
      generalize H1 = H at hP hS ⊢
      have hP : va_P (dC, dI) classes [(h0, .inr (0, [.ref qm, .ref y1, .ref y2, .ref y3, .ref qp, .int 1, .ref y4, .int 0, .ref y5, .int 0, .ref y6, .ref y7, .ref y8, .int 0, .ref y9, .ref y10, .ref y11])), (qp, .inl (cB, 8, .inr (.inr (.inr (.inr (fp)))))), (c0, .inr (2, [.ref a0, .int n6])), (a0, .inl (cC, 8, .inl (f7)))] H := hP
      have hD : va_D A [(h0, .inr (0, [.ref qm, .ref y1, .ref y2, .ref y3, .ref qp, .int 1, .ref y4, .int 0, .ref y5, .int 0, .ref y6, .ref y7, .ref y8, .int 0, .ref y9, .ref y10, .ref y11])), (qp, .inl (cB, 8, .inr (.inr (.inr (.inr (fp)))))), (c0, .inr (2, [.ref a0, .int n6])), (a0, .inl (cC, 8, .inl (f7)))] := hD
      refine W.widen (k := 0) (n := 0) (by omega) (by omega) ?_
      refine lv_aload hx hb d_LC_add_62 (lv_at hl 1 rfl) ?_
      have hPc : va_P (dC, dI) classes [(c0, .inr (2, [.ref a0, .int n6]))] _ := hP.sub (ws' := [(c0, .inr (2, [.ref a0, .int n6]))]) [2] rfl
      have hKc : va_K (dC, dI) classes [] s := hK.sub (tys' := []) [] rfl
      refine vp_callSi (W.runV (As := []) (rest := []) ⟨hx, hb, hml, hown, hts⟩ (c_Code_length l dC dI c0 a0 n6) (cwV 0 hts g_LC_add_64 rfl rfl rfl (by decide +kernel) ⟨Nat.le_of_ble_eq_true rfl, Nat.le_of_ble_eq_true rfl⟩) ⟨fun a U g mk z => by obtain ⟨z0, zP, zK⟩ := z; exact ⟨z0, zP, va_K.moved (u := U) (U := U.calling g mk a) (Vm.Alike.refl U.vm) zK⟩, va_recv hKc hPc (ci := 2) (q0 := 0) rfl rfl, fun U hU hW => ⟨rfl, by rw [hU]; exact hPc, va_K.moved hW.alike hKc⟩⟩ rfl rfl hl.1 rfl (lv_room (Nat.le_of_ble_eq_true rfl)) d_LC_add_64 ⟨(Nat.le_of_ble_eq_true rfl), (Nat.le_of_ble_eq_true rfl)⟩) (fun r8 hr8 => ?_)
      replace hr8 := hr8.symm; subst hr8
      have hP9 : va_P (dC, dI) classes [(h0, .inr (0, [.ref qm, .ref y1, .ref y2, .ref y3, .ref qp, .int 1, .ref y4, .int 0, .ref y5, .int 0, .ref y6, .ref y7, .ref y8, .int 0, .ref y9, .ref y10, .ref y11])), (qp, .inl (cB, 8, .inr (.inr (.inr (.inr (fp)))))), (c0, .inr (2, [.ref a0, .int n6])), (a0, .inl (cC, 8, .inl (f7)))] H := hP.sub (ws' := [(h0, .inr (0, [.ref qm, .ref y1, .ref y2, .ref y3, .ref qp, .int 1, .ref y4, .int 0, .ref y5, .int 0, .ref y6, .ref y7, .ref y8, .int 0, .ref y9, .ref y10, .ref y11])), (qp, .inl (cB, 8, .inr (.inr (.inr (.inr (fp)))))), (c0, .inr (2, [.ref a0, .int n6])), (a0, .inl (cC, 8, .inl (f7)))]) [0, 1, 2, 3] rfl
      have hD9 := hD.sub (ws' := [(h0, .inr (0, [.ref qm, .ref y1, .ref y2, .ref y3, .ref qp, .int 1, .ref y4, .int 0, .ref y5, .int 0, .ref y6, .ref y7, .ref y8, .int 0, .ref y9, .ref y10, .ref y11])), (qp, .inl (cB, 8, .inr (.inr (.inr (.inr (fp)))))), (c0, .inr (2, [.ref a0, .int n6])), (a0, .inl (cC, 8, .inl (f7)))]) [0, 1, 2, 3] (by decide) rfl
      have hK9 := hK.sub (tys' := [(cB, .object "Leastcode$Code"), (cC, .int)]) [0, 1] rfl
      refine W.widen (k := 0) (n := 0) (by omega) (by omega) ?_
      exact W.iret hx hb hr (fun t ht hW => ⟨⟨_, (), rfl, hpr5_0, ⟨n6, ⟨f7, ⟨by rw [ht]; exact hP9, va_K.moved hW.alike hK9, hD9, hpr5_0⟩⟩⟩⟩, hS.F ht⟩) hS.2.2 d_LC_add_67
    · exact absurd (by rw [hnk]; exact (show nI k < nI 8 from nI_lt hk (by omega))) c_42
  · exact absurd c_22 (by decide)

abbrev rm_refuseOutside : Room := { frames := 0, cells := 0, slots := 0, locals := 0 }
abbrev b_refuseOutside : ByteArray := prog_1_method_43_code
def y_refuseOutside : MethodName := ⟨"Leastcode", "refuseOutside", "(III)V"⟩
def w_refuseOutside : List Cond := [.code ⟨"Leastcode", "refuseOutside", "(III)V"⟩ prog_1_method_43_code 3 none]
theorem d_refuseOutside_0 : decode b_refuseOutside 0 = .ok (.iload_n 0, 1) := by decide +kernel
theorem d_refuseOutside_1 : decode b_refuseOutside 1 = .ok (.iload_n 1, 1) := by decide +kernel
theorem d_refuseOutside_2 : decode b_refuseOutside 2 = .ok (.if_icmp .lt 8, 3) := by decide +kernel
theorem d_refuseOutside_5 : decode b_refuseOutside 5 = .ok (.iload_n 0, 1) := by decide +kernel
theorem d_refuseOutside_6 : decode b_refuseOutside 6 = .ok (.iload_n 2, 1) := by decide +kernel
theorem d_refuseOutside_7 : decode b_refuseOutside 7 = .ok (.if_icmp .le 14, 3) := by decide +kernel
theorem d_refuseOutside_21 : decode b_refuseOutside 21 = .ok (.return_, 1) := by decide +kernel
set_option maxHeartbeats 4000000 in
set_option maxRecDepth 100000 in
theorem c_refuseOutside (l : Launch)  : Met l y_refuseOutside w_refuseOutside rm_refuseOutside (va_Pc [.int 0, .int 0, .int 7] (fun U => True)) (va_Sv (fun _ => True)) 0 0 (fun _ => False) := by
  refine Met.ofW (cc := b_refuseOutside) (maxL := 3) (ret := none) (by decide) rfl ?_
  intro p e s m args below meth c s₁ B hml hv
  obtain ⟨rfl, -⟩ := hv
  have hx := B.exec
  have hb := B.bytes
  have hr := B.returns
  have hts := atoms_spec (ws := w_refuseOutside) B.pre
  have hown : s.vm.findClass "Leastcode" = some m.cls := findClass_of_methodNamed B.named
  have hlocks := B.notSynchronized
  have hl := lv_entry ([.int 0, .int 0, .int 7]) (n := 3) (Nat.le_of_ble_eq_true rfl)
  rw [lg_entry_eq]
  generalize (lg_sl ([.int 0, .int 0, .int 7]) ++ List.replicate (3 - (lg_sl ([.int 0, .int 0, .int 7])).length) Slot.unset).toArray = ls at hl ⊢
  have hl : lv_has ls 3 [(0, .int 0), (1, .int 0), (2, .int 7)] := hl
  refine lv_iload_n hx hb d_refuseOutside_0 rfl (lv_at hl 0 rfl) ?_
  refine lv_iload_n hx hb d_refuseOutside_1 rfl (lv_at hl 1 rfl) ?_
  refine lv_icmp_lt (tgt := 10) hx hb d_refuseOutside_2 (by decide) (fun c_2 => ?_) (fun c_2 => ?_)
  · exact absurd c_2 (by decide)
  · skip
    refine lv_iload_n hx hb d_refuseOutside_5 rfl (lv_at hl 0 rfl) ?_
    refine lv_iload_n hx hb d_refuseOutside_6 rfl (lv_at hl 2 rfl) ?_
    refine lv_icmp_le (tgt := 21) hx hb d_refuseOutside_7 (by decide) (fun c_7 => ?_) (fun c_7 => ?_)
    · skip
      exact W.vret hx hb hr (fun t ht hW => ⟨rfl, trivial, ht⟩) (fun _ h => by cases h) d_refuseOutside_21
    · exact absurd (by decide) c_7

abbrev rm_refuseBadParts : Room := { frames := 1, cells := 0, slots := 0, locals := 22 }
abbrev b_refuseBadParts : ByteArray := prog_1_method_45_code
def y_refuseBadParts : MethodName := ⟨"Leastcode", "refuseBadParts", "(I)V"⟩
def w_refuseBadParts : List Cond := [.code ⟨"Leastcode", "refuseBadParts", "(I)V"⟩ prog_1_method_45_code 1 none, .methodLink "Leastcode" 143 ⟨"Leastcode", "refuseOutside", "(III)V"⟩, .static ⟨"Leastcode", "refuseOutside", "(III)V"⟩, .initialized "Leastcode", .code ⟨"Leastcode", "refuseOutside", "(III)V"⟩ prog_1_method_43_code 3 none]
theorem d_refuseBadParts_0 : decode b_refuseBadParts 0 = .ok (.iload_n 0, 1) := by decide +kernel
theorem d_refuseBadParts_1 : decode b_refuseBadParts 1 = .ok (.iconst 0, 1) := by decide +kernel
theorem d_refuseBadParts_2 : decode b_refuseBadParts 2 = .ok (.bipush 7, 2) := by decide +kernel
theorem d_refuseBadParts_4 : decode b_refuseBadParts 4 = .ok (.invokestatic 143, 3) := by decide +kernel
theorem d_refuseBadParts_7 : decode b_refuseBadParts 7 = .ok (.return_, 1) := by decide +kernel
set_option maxRecDepth 20000 in
theorem g_refuseBadParts_4 : GoodIn w_refuseBadParts (wsS "Leastcode" 143 ⟨"Leastcode", "refuseOutside", "(III)V"⟩ w_refuseOutside) := goodIn_r _ [1, 2, 3, 4] rfl (by decide +kernel)
set_option maxHeartbeats 4000000 in
set_option maxRecDepth 100000 in
theorem c_refuseBadParts (l : Launch)  : Met l y_refuseBadParts w_refuseBadParts rm_refuseBadParts (va_Pc [.int 0] (fun U => True)) (va_Sv (fun _ => True)) 0 0 (fun _ => False) := by
  refine Met.ofW (cc := b_refuseBadParts) (maxL := 1) (ret := none) (by decide) rfl ?_
  intro p e s m args below meth c s₁ B hml hv
  obtain ⟨rfl, -⟩ := hv
  have hx := B.exec
  have hb := B.bytes
  have hr := B.returns
  have hts := atoms_spec (ws := w_refuseBadParts) B.pre
  have hown : s.vm.findClass "Leastcode" = some m.cls := findClass_of_methodNamed B.named
  have hlocks := B.notSynchronized
  have hl := lv_entry ([.int 0]) (n := 1) (Nat.le_of_ble_eq_true rfl)
  rw [lg_entry_eq]
  generalize (lg_sl ([.int 0]) ++ List.replicate (1 - (lg_sl ([.int 0])).length) Slot.unset).toArray = ls at hl ⊢
  have hl : lv_has ls 1 [(0, .int 0)] := hl
  refine lv_iload_n hx hb d_refuseBadParts_0 rfl (lv_at hl 0 rfl) ?_
  refine lv_iconst (v := 0) hx hb d_refuseBadParts_1 (by decide) ?_
  refine lv_bipush (v := 7) hx hb d_refuseBadParts_2 (by decide) ?_
  refine va_csv (W.runS (As := [.int 0, .int 0, .int 7]) (rest := []) ⟨hx, hb, hml, hown, hts⟩ (c_refuseOutside l ) (cwS 3 hts g_refuseBadParts_4 rfl rfl rfl (by decide +kernel) ⟨Nat.le_of_ble_eq_true rfl, Nat.le_of_ble_eq_true rfl⟩) ⟨fun a U g mk z => z, fun U hU hW => ⟨rfl, trivial⟩⟩ rfl rfl hl.1 rfl (lv_room (Nat.le_of_ble_eq_true rfl)) d_refuseBadParts_4 ⟨(Nat.le_of_ble_eq_true rfl), (Nat.le_of_ble_eq_true rfl)⟩) (fun hr1 => ?_)
  exact W.vret hx hb hr (fun t ht hW => ⟨rfl, trivial, ht⟩) (fun _ h => by cases h) d_refuseBadParts_7

abbrev rm_step : Room := { frames := 0, cells := 0, slots := 0, locals := 0 }
abbrev b_step : ByteArray := prog_6_method_18_code
def y_step : MethodName := ⟨"Leastcode$Machine", "step", "(II)I"⟩
def w_step : List Cond := [.code ⟨"Leastcode$Machine", "step", "(II)I"⟩ prog_6_method_18_code 4 (some .int), .laysFinal "Leastcode$Machine" "Leastcode$Machine" "next" "[I", .laysFinal "Leastcode$Machine" "Leastcode$Machine" "readParts" "[I", .laysFinal "Leastcode$Machine" "Leastcode$Machine" "writtenParts" "[I", .laysFinal "Leastcode$Machine" "Leastcode$Machine" "mirrors" "[I", .laysFinal "Leastcode$Machine" "Leastcode$Machine" "toRegister0" "[J", .laysFinal "Leastcode$Machine" "Leastcode$Machine" "toRegister1" "[J", .laysFinal "Leastcode$Machine" "Leastcode$Machine" "toFlag" "[J", .fieldLink "Leastcode$Machine" 9 "Leastcode$Machine" "next" "[I"]
theorem d_step_0 : decode b_step 0 = .ok (.iload_n 1, 1) := by decide +kernel
theorem d_step_1 : decode b_step 1 = .ok (.sipush 128, 3) := by decide +kernel
theorem d_step_4 : decode b_step 4 = .ok (.imul, 1) := by decide +kernel
theorem d_step_5 : decode b_step 5 = .ok (.iload_n 2, 1) := by decide +kernel
theorem d_step_6 : decode b_step 6 = .ok (.iadd, 1) := by decide +kernel
theorem d_step_7 : decode b_step 7 = .ok (.istore_n 3, 1) := by decide +kernel
theorem d_step_8 : decode b_step 8 = .ok (.iload_n 3, 1) := by decide +kernel
theorem d_step_9 : decode b_step 9 = .ok (.ifCond .lt 21, 3) := by decide +kernel
theorem d_step_12 : decode b_step 12 = .ok (.iload_n 3, 1) := by decide +kernel
theorem d_step_13 : decode b_step 13 = .ok (.aload_n 0, 1) := by decide +kernel
theorem d_step_14 : decode b_step 14 = .ok (.getfield 9, 3) := by decide +kernel
theorem d_step_17 : decode b_step 17 = .ok (.arraylength, 1) := by decide +kernel
theorem d_step_18 : decode b_step 18 = .ok (.if_icmp .ge 12, 3) := by decide +kernel
theorem d_step_21 : decode b_step 21 = .ok (.aload_n 0, 1) := by decide +kernel
theorem d_step_22 : decode b_step 22 = .ok (.getfield 9, 3) := by decide +kernel
theorem d_step_25 : decode b_step 25 = .ok (.iload_n 3, 1) := by decide +kernel
theorem d_step_26 : decode b_step 26 = .ok (.iaload, 1) := by decide +kernel
theorem d_step_27 : decode b_step 27 = .ok (.goto 4, 3) := by decide +kernel
theorem d_step_30 : decode b_step 30 = .ok (.iload_n 2, 1) := by decide +kernel
theorem d_step_31 : decode b_step 31 = .ok (.ireturn, 1) := by decide +kernel
theorem in_step_MA : ∀ v ∈ u_ws R_MA T_MA 7, v ∈ w_step := by decide +kernel
set_option maxHeartbeats 4000000 in
set_option maxRecDepth 100000 in
theorem c_step (l : Launch) (dC : Nat → ClassId) (dI : Nat → Nat → Nat) (qm : Nat) (qn : Nat) (qa : Nat) (qb : Nat) (qc : Nat) (qd : Nat) (qe : Nat) (qf : Nat) (cA : ClassId) (f : Nat → Int32) (u : Int32) (v : Int32) : Met l y_step w_step rm_step (va_Pc [.ref qm, .int u, .int v] (fun U => va_P (dC, dI) classes [(qm, .inr (1, [.ref qn, .ref qa, .ref qb, .ref qc, .ref qd, .ref qe, .ref qf])), (qn, .inl (cA, 6016, .inl (f)))] U.heap ∧ va_K (dC, dI) classes [(cA, .int)] U)) (vp_Si (fun r => True)) 0 0 (fun _ => False) := by
  refine Met.ofW (cc := b_step) (maxL := 4) (ret := (some .int)) (by decide) rfl ?_
  intro p e s m args below meth c s₁ B hml hv
  obtain ⟨rfl, hP, hK⟩ := hv
  have hx := B.exec
  have hb := B.bytes
  have hr := B.returns
  have hts := atoms_spec (ws := w_step) B.pre
  have hown : s.vm.findClass "Leastcode$Machine" = some m.cls := findClass_of_methodNamed B.named
  have hlocks := B.notSynchronized
  have hP : va_P (dC, dI) classes [(qm, .inr (1, [.ref qn, .ref qa, .ref qb, .ref qc, .ref qd, .ref qe, .ref qf])), (qn, .inl (cA, 6016, .inl (f)))] s.heap := hP
  have hl := lv_entry ([.ref qm, .int u, .int v]) (n := 4) (Nat.le_of_ble_eq_true rfl)
  rw [lg_entry_eq]
  generalize (lg_sl ([.ref qm, .int u, .int v]) ++ List.replicate (4 - (lg_sl ([.ref qm, .int u, .int v])).length) Slot.unset).toArray = ls at hl ⊢
  have hl : lv_has ls 4 [(0, .ref qm), (1, .int u), (2, .int v)] := hl
  refine lv_iload_n hx hb d_step_0 rfl (lv_at hl 1 rfl) ?_
  refine lv_sipush (v := 128) hx hb d_step_1 (by decide) ?_
  refine lv_imul hx hb d_step_4 ?_
  refine lv_topi (fun x1 ex1 => ?_)
  refine lv_iload_n hx hb d_step_5 rfl (lv_at hl 2 rfl) ?_
  refine lv_iadd hx hb d_step_6 ?_
  refine lv_topi (fun x2 ex2 => ?_)
  refine lv_istore_n (lv' := [(3, .int x2), (0, .ref qm), (1, .int u), (2, .int v)]) hx hb d_step_7 rfl hl (by decide) rfl (fun ls hl => ?_)
  refine lv_iload_n hx hb d_step_8 rfl (lv_at hl 0 rfl) ?_
  refine lv_if_lt (tgt := 30) hx hb d_step_9 (by decide) (fun c_9 => ?_) (fun c_9 => ?_)
  · skip
    refine lv_iload_n hx hb d_step_30 rfl (lv_at hl 3 rfl) ?_
    exact W.iret hx hb hr (fun t ht hW => ⟨_, rfl, trivial, ht⟩) (fun _ h => by cases h) d_step_31
  · skip
    refine lv_iload_n hx hb d_step_12 rfl (lv_at hl 0 rfl) ?_
    refine lv_aload_n hx hb d_step_13 rfl (lv_at hl 1 rfl) ?_
    refine va_get (D := (dC, dI)) (ci := 1) (v := .ref qn) (C := R_MA) (T := T_MA) (N := 7) hx hb hts in_step_MA hown hK hP 0 rfl rfl 0 (by decide) (hts (.fieldLink "Leastcode$Machine" 9 "Leastcode$Machine" "next" "[I") (List.mem_of_getElem? (i := 8) rfl)) (fun _ h9 => h9) rfl d_step_14 ?_
    refine va_alen (v := 6016) hx hb hK hP 1 0 rfl rfl (show Int32.ofNat 6016 = 6016 by decide) d_step_17 ?_
    refine lv_icmp_ge (tgt := 30) hx hb d_step_18 (by decide) (fun c_18 => ?_) (fun c_18 => ?_)
    · skip
      refine lv_iload_n hx hb d_step_30 rfl (lv_at hl 3 rfl) ?_
      exact W.iret hx hb hr (fun t ht hW => ⟨_, rfl, trivial, ht⟩) (fun _ h => by cases h) d_step_31
    · skip
      obtain ⟨k9, hk9, hx9⟩ := nI_within (n := 6016) (by omega) c_9 c_18
      have hb9 : vp_in x2 6016 := by rw [hx9]; exact vp_in_nI hk9 (by omega)
      refine lv_aload_n hx hb d_step_21 rfl (lv_at hl 1 rfl) ?_
      refine va_get (D := (dC, dI)) (ci := 1) (v := .ref qn) (C := R_MA) (T := T_MA) (N := 7) hx hb hts in_step_MA hown hK hP 0 rfl rfl 0 (by decide) (hts (.fieldLink "Leastcode$Machine" 9 "Leastcode$Machine" "next" "[I") (List.mem_of_getElem? (i := 8) rfl)) (fun _ h9 => h9) rfl d_step_22 ?_
      refine lv_iload_n hx hb d_step_25 rfl (lv_at hl 0 rfl) ?_
      refine va_iald hx hb hK hP 1 0 rfl rfl hb9 d_step_26 ?_
      refine lv_topi (fun x3 ex3 => ?_)
      refine lv_goto (tgt := 31) hx hb d_step_27 (by decide) ?_
      exact W.iret hx hb hr (fun t ht hW => ⟨_, rfl, trivial, ht⟩) (fun _ h => by cases h) d_step_31

abbrev rm_Code_get : Room := { frames := 0, cells := 0, slots := 0, locals := 0 }
abbrev b_Code_get : ByteArray := prog_2_method_3_code
def y_Code_get : MethodName := ⟨"Leastcode$Code", "get", "(I)I"⟩
def w_Code_get : List Cond := [.code ⟨"Leastcode$Code", "get", "(I)I"⟩ prog_2_method_3_code 2 (some .int), .laysFinal "Leastcode$Code" "Leastcode$Code" "numbers" "[I", .lays "Leastcode$Code" "Leastcode$Code" "length" "I", .fieldLink "Leastcode$Code" 9 "Leastcode$Code" "numbers" "[I"]
theorem d_Code_get_0 : decode b_Code_get 0 = .ok (.iload_n 1, 1) := by decide +kernel
theorem d_Code_get_1 : decode b_Code_get 1 = .ok (.ifCond .lt 18, 3) := by decide +kernel
theorem d_Code_get_4 : decode b_Code_get 4 = .ok (.iload_n 1, 1) := by decide +kernel
theorem d_Code_get_5 : decode b_Code_get 5 = .ok (.bipush 8, 2) := by decide +kernel
theorem d_Code_get_7 : decode b_Code_get 7 = .ok (.if_icmp .ge 12, 3) := by decide +kernel
theorem d_Code_get_10 : decode b_Code_get 10 = .ok (.aload_n 0, 1) := by decide +kernel
theorem d_Code_get_11 : decode b_Code_get 11 = .ok (.getfield 9, 3) := by decide +kernel
theorem d_Code_get_14 : decode b_Code_get 14 = .ok (.iload_n 1, 1) := by decide +kernel
theorem d_Code_get_15 : decode b_Code_get 15 = .ok (.iaload, 1) := by decide +kernel
theorem d_Code_get_16 : decode b_Code_get 16 = .ok (.goto 4, 3) := by decide +kernel
theorem d_Code_get_19 : decode b_Code_get 19 = .ok (.iconst 0, 1) := by decide +kernel
theorem d_Code_get_20 : decode b_Code_get 20 = .ok (.ireturn, 1) := by decide +kernel
theorem in_Code_get_CO : ∀ v ∈ u_ws R_CO T_CO 2, v ∈ w_Code_get := by decide +kernel
set_option maxHeartbeats 4000000 in
set_option maxRecDepth 100000 in
theorem c_Code_get (l : Launch) (dC : Nat → ClassId) (dI : Nat → Nat → Nat) (c0 : Nat) (a0 : Nat) (n : Int32) (cC : ClassId) (fa : Nat → Int32) (i : Int32) : Met l y_Code_get w_Code_get rm_Code_get (va_Pc [.ref c0, .int i] (fun U => va_P (dC, dI) classes [(c0, .inr (2, [.ref a0, .int n])), (a0, .inl (cC, 8, .inl (fa)))] U.heap ∧ va_K (dC, dI) classes [(cC, .int)] U)) (vp_Si (fun r => True)) 0 0 (fun _ => False) := by
  refine Met.ofW (cc := b_Code_get) (maxL := 2) (ret := (some .int)) (by decide) rfl ?_
  intro p e s m args below meth c s₁ B hml hv
  obtain ⟨rfl, hP, hK⟩ := hv
  have hx := B.exec
  have hb := B.bytes
  have hr := B.returns
  have hts := atoms_spec (ws := w_Code_get) B.pre
  have hown : s.vm.findClass "Leastcode$Code" = some m.cls := findClass_of_methodNamed B.named
  have hlocks := B.notSynchronized
  have hP : va_P (dC, dI) classes [(c0, .inr (2, [.ref a0, .int n])), (a0, .inl (cC, 8, .inl (fa)))] s.heap := hP
  have hl := lv_entry ([.ref c0, .int i]) (n := 2) (Nat.le_of_ble_eq_true rfl)
  rw [lg_entry_eq]
  generalize (lg_sl ([.ref c0, .int i]) ++ List.replicate (2 - (lg_sl ([.ref c0, .int i])).length) Slot.unset).toArray = ls at hl ⊢
  have hl : lv_has ls 2 [(0, .ref c0), (1, .int i)] := hl
  refine lv_iload_n hx hb d_Code_get_0 rfl (lv_at hl 1 rfl) ?_
  refine lv_if_lt (tgt := 19) hx hb d_Code_get_1 (by decide) (fun c_1 => ?_) (fun c_1 => ?_)
  · skip
    refine lv_iconst (v := 0) hx hb d_Code_get_19 (by decide) ?_
    exact W.iret hx hb hr (fun t ht hW => ⟨_, rfl, trivial, ht⟩) (fun _ h => by cases h) d_Code_get_20
  · skip
    refine lv_iload_n hx hb d_Code_get_4 rfl (lv_at hl 1 rfl) ?_
    refine lv_bipush (v := 8) hx hb d_Code_get_5 (by decide) ?_
    refine lv_icmp_ge (tgt := 19) hx hb d_Code_get_7 (by decide) (fun c_7 => ?_) (fun c_7 => ?_)
    · skip
      refine lv_iconst (v := 0) hx hb d_Code_get_19 (by decide) ?_
      exact W.iret hx hb hr (fun t ht hW => ⟨_, rfl, trivial, ht⟩) (fun _ h => by cases h) d_Code_get_20
    · skip
      obtain ⟨k9, hk9, hx9⟩ := nI_within (n := 8) (by omega) c_1 c_7
      have hb9 : vp_in i 8 := by rw [hx9]; exact vp_in_nI hk9 (by omega)
      refine lv_aload_n hx hb d_Code_get_10 rfl (lv_at hl 0 rfl) ?_
      refine va_get (D := (dC, dI)) (ci := 2) (v := .ref a0) (C := R_CO) (T := T_CO) (N := 2) hx hb hts in_Code_get_CO hown hK hP 0 rfl rfl 0 (by decide) (hts (.fieldLink "Leastcode$Code" 9 "Leastcode$Code" "numbers" "[I") (List.mem_of_getElem? (i := 3) rfl)) (fun _ h9 => h9) rfl d_Code_get_11 ?_
      refine lv_iload_n hx hb d_Code_get_14 rfl (lv_at hl 1 rfl) ?_
      refine va_iald hx hb hK hP 1 0 rfl rfl hb9 d_Code_get_15 ?_
      refine lv_topi (fun x1 ex1 => ?_)
      refine lv_goto (tgt := 20) hx hb d_Code_get_16 (by decide) ?_
      exact W.iret hx hb hr (fun t ht hW => ⟨_, rfl, trivial, ht⟩) (fun _ h => by cases h) d_Code_get_20

abbrev rm_through : Room := { frames := 1, cells := 0, slots := 0, locals := 23 }
abbrev b_through : ByteArray := prog_6_method_19_code
def y_through : MethodName := ⟨"Leastcode$Machine", "through", "(LLeastcode$Code;I)I"⟩
def w_through : List Cond := [.code ⟨"Leastcode$Machine", "through", "(LLeastcode$Code;I)I"⟩ prog_6_method_19_code 5 (some .int), .methodLink "Leastcode$Machine" 89 ⟨"Leastcode$Code", "length", "()I"⟩, .instanceMethod ⟨"Leastcode$Code", "length", "()I"⟩, .selects "Leastcode$Code" ⟨"Leastcode$Code", "length", "()I"⟩ ⟨"Leastcode$Code", "length", "()I"⟩, .initialized "Leastcode$Code", .code ⟨"Leastcode$Code", "length", "()I"⟩ prog_2_method_2_code 1 (some .int), .laysFinal "Leastcode$Code" "Leastcode$Code" "numbers" "[I", .lays "Leastcode$Code" "Leastcode$Code" "length" "I", .fieldLink "Leastcode$Code" 15 "Leastcode$Code" "length" "I", .methodLink "Leastcode$Machine" 92 ⟨"Leastcode$Code", "get", "(I)I"⟩, .instanceMethod ⟨"Leastcode$Code", "get", "(I)I"⟩, .selects "Leastcode$Code" ⟨"Leastcode$Code", "get", "(I)I"⟩ ⟨"Leastcode$Code", "get", "(I)I"⟩, .code ⟨"Leastcode$Code", "get", "(I)I"⟩ prog_2_method_3_code 2 (some .int), .fieldLink "Leastcode$Code" 9 "Leastcode$Code" "numbers" "[I", .methodLink "Leastcode$Machine" 95 ⟨"Leastcode$Machine", "step", "(II)I"⟩, .instanceMethod ⟨"Leastcode$Machine", "step", "(II)I"⟩, .selects "Leastcode$Machine" ⟨"Leastcode$Machine", "step", "(II)I"⟩ ⟨"Leastcode$Machine", "step", "(II)I"⟩, .initialized "Leastcode$Machine", .code ⟨"Leastcode$Machine", "step", "(II)I"⟩ prog_6_method_18_code 4 (some .int), .laysFinal "Leastcode$Machine" "Leastcode$Machine" "next" "[I", .laysFinal "Leastcode$Machine" "Leastcode$Machine" "readParts" "[I", .laysFinal "Leastcode$Machine" "Leastcode$Machine" "writtenParts" "[I", .laysFinal "Leastcode$Machine" "Leastcode$Machine" "mirrors" "[I", .laysFinal "Leastcode$Machine" "Leastcode$Machine" "toRegister0" "[J", .laysFinal "Leastcode$Machine" "Leastcode$Machine" "toRegister1" "[J", .laysFinal "Leastcode$Machine" "Leastcode$Machine" "toFlag" "[J", .fieldLink "Leastcode$Machine" 9 "Leastcode$Machine" "next" "[I"]
theorem d_through_0 : decode b_through 0 = .ok (.iload_n 2, 1) := by decide +kernel
theorem d_through_1 : decode b_through 1 = .ok (.istore_n 3, 1) := by decide +kernel
theorem d_through_2 : decode b_through 2 = .ok (.iconst 0, 1) := by decide +kernel
theorem d_through_3 : decode b_through 3 = .ok (.istore 4, 2) := by decide +kernel
theorem d_through_5 : decode b_through 5 = .ok (.iload 4, 2) := by decide +kernel
theorem d_through_7 : decode b_through 7 = .ok (.aload_n 1, 1) := by decide +kernel
theorem d_through_8 : decode b_through 8 = .ok (.invokevirtual 89, 3) := by decide +kernel
theorem d_through_11 : decode b_through 11 = .ok (.if_icmp .ge 21, 3) := by decide +kernel
theorem d_through_14 : decode b_through 14 = .ok (.aload_n 0, 1) := by decide +kernel
theorem d_through_15 : decode b_through 15 = .ok (.aload_n 1, 1) := by decide +kernel
theorem d_through_16 : decode b_through 16 = .ok (.iload 4, 2) := by decide +kernel
theorem d_through_18 : decode b_through 18 = .ok (.invokevirtual 92, 3) := by decide +kernel
theorem d_through_21 : decode b_through 21 = .ok (.iload_n 3, 1) := by decide +kernel
theorem d_through_22 : decode b_through 22 = .ok (.invokevirtual 95, 3) := by decide +kernel
theorem d_through_25 : decode b_through 25 = .ok (.istore_n 3, 1) := by decide +kernel
theorem d_through_26 : decode b_through 26 = .ok (.iinc 4 1, 3) := by decide +kernel
theorem d_through_29 : decode b_through 29 = .ok (.goto (-24), 3) := by decide +kernel
theorem d_through_32 : decode b_through 32 = .ok (.iload_n 3, 1) := by decide +kernel
theorem d_through_33 : decode b_through 33 = .ok (.ireturn, 1) := by decide +kernel
set_option maxRecDepth 20000 in
theorem g_through_8 : GoodIn w_through (wsV "Leastcode$Machine" 89 "Leastcode$Code" ⟨"Leastcode$Code", "length", "()I"⟩ w_Code_length) := goodIn_r _ [1, 2, 3, 4, 5, 6, 7, 8] rfl (by decide +kernel)
set_option maxRecDepth 20000 in
theorem g_through_18 : GoodIn w_through (wsV "Leastcode$Machine" 92 "Leastcode$Code" ⟨"Leastcode$Code", "get", "(I)I"⟩ w_Code_get) := goodIn_r _ [9, 10, 11, 4, 12, 6, 7, 13] rfl (by decide +kernel)
set_option maxRecDepth 20000 in
theorem g_through_22 : GoodIn w_through (wsV "Leastcode$Machine" 95 "Leastcode$Machine" ⟨"Leastcode$Machine", "step", "(II)I"⟩ w_step) := goodIn_r _ [14, 15, 16, 17, 18, 19, 20, 21, 22, 23, 24, 25, 26] rfl (by decide +kernel)
set_option maxHeartbeats 4000000 in
set_option maxRecDepth 100000 in
theorem c_through (l : Launch) (dC : Nat → ClassId) (dI : Nat → Nat → Nat) (qm : Nat) (qn : Nat) (qa : Nat) (qb : Nat) (qc : Nat) (qd : Nat) (qe : Nat) (qf : Nat) (cA : ClassId) (f : Nat → Int32) (c0 : Nat) (a0 : Nat) (n : Int32) (cC : ClassId) (fa : Nat → Int32) (kk : Nat) (v : Int32) (hnk : n = nI kk) (hkk : kk ≤ 8) : Met l y_through w_through rm_through (va_Pc [.ref qm, .ref c0, .int v] (fun U => va_P (dC, dI) classes [(qm, .inr (1, [.ref qn, .ref qa, .ref qb, .ref qc, .ref qd, .ref qe, .ref qf])), (qn, .inl (cA, 6016, .inl (f))), (c0, .inr (2, [.ref a0, .int n])), (a0, .inl (cC, 8, .inl (fa)))] U.heap ∧ va_K (dC, dI) classes [(cA, .int), (cC, .int)] U)) (vp_Si (fun r => True)) 0 0 (fun _ => False) := by
  refine Met.ofW (cc := b_through) (maxL := 5) (ret := (some .int)) (by decide) rfl ?_
  intro p e s m args below meth c s₁ B hml hv
  obtain ⟨rfl, hP, hK⟩ := hv
  have hx := B.exec
  have hb := B.bytes
  have hr := B.returns
  have hts := atoms_spec (ws := w_through) B.pre
  have hown : s.vm.findClass "Leastcode$Machine" = some m.cls := findClass_of_methodNamed B.named
  have hlocks := B.notSynchronized
  have hP : va_P (dC, dI) classes [(qm, .inr (1, [.ref qn, .ref qa, .ref qb, .ref qc, .ref qd, .ref qe, .ref qf])), (qn, .inl (cA, 6016, .inl (f))), (c0, .inr (2, [.ref a0, .int n])), (a0, .inl (cC, 8, .inl (fa)))] s.heap := hP
  have hl := lv_entry ([.ref qm, .ref c0, .int v]) (n := 5) (Nat.le_of_ble_eq_true rfl)
  rw [lg_entry_eq]
  generalize (lg_sl ([.ref qm, .ref c0, .int v]) ++ List.replicate (5 - (lg_sl ([.ref qm, .ref c0, .int v])).length) Slot.unset).toArray = ls at hl ⊢
  have hl : lv_has ls 5 [(0, .ref qm), (1, .ref c0), (2, .int v)] := hl
  refine lv_iload_n hx hb d_through_0 rfl (lv_at hl 2 rfl) ?_
  refine lv_istore_n (lv' := [(3, .int v), (0, .ref qm), (1, .ref c0), (2, .int v)]) hx hb d_through_1 rfl hl (by decide) rfl (fun ls hl => ?_)
  refine lv_iconst (v := 0) hx hb d_through_2 (by decide) ?_
  refine lv_istore (lv' := [(4, .int 0), (3, .int v), (0, .ref qm), (1, .ref c0), (2, .int v)]) hx hb d_through_3 hl (by decide) rfl (fun ls hl => ?_)
  refine ry_abs (fun QQ hQ => ?_)
  have loop : ∀ (k i : Nat), i + k = kk → ∀ (z : Int32) (ls : Array Slot) (x : Int32), x = nI i → lv_has ls 5 [(4, .int x), (3, .int z), (0, .ref qm), (1, .ref c0), (2, .int v)] → W p l e (headSpec w_through rm_through).room s m ([.ref qm, .ref c0, .int v] : List Value).toArray below meth c s.heap [] (0) (0) QQ (F0 m 5 ls []) := by
    intro k
    induction k with
    | zero =>
      intro i hi z ls x ex0 hl
      obtain rfl : i = kk := by omega
      refine lv_iload hx hb d_through_5 (lv_at hl 0 rfl) ?_
      refine lv_aload_n hx hb d_through_7 rfl (lv_at hl 3 rfl) ?_
      have hPc : va_P (dC, dI) classes [(c0, .inr (2, [.ref a0, .int n]))] _ := hP.sub (ws' := [(c0, .inr (2, [.ref a0, .int n]))]) [2] rfl
      have hKc : va_K (dC, dI) classes [] s := hK.sub (tys' := []) [] rfl
      refine vp_callSi (W.runV (As := []) (rest := [.int x]) ⟨hx, hb, hml, hown, hts⟩ (c_Code_length l dC dI c0 a0 n) (cwV 0 hts g_through_8 rfl rfl rfl (by decide +kernel) ⟨Nat.le_of_ble_eq_true rfl, Nat.le_of_ble_eq_true rfl⟩) ⟨fun a U g mk z => by obtain ⟨z0, zP, zK⟩ := z; exact ⟨z0, zP, va_K.moved (u := U) (U := U.calling g mk a) (Vm.Alike.refl U.vm) zK⟩, va_recv hKc hPc (ci := 2) (q0 := 0) rfl rfl, fun U hU hW => ⟨rfl, by rw [hU]; exact hPc, va_K.moved hW.alike hKc⟩⟩ rfl rfl hl.1 rfl (lv_room (Nat.le_of_ble_eq_true rfl)) d_through_8 ⟨(Nat.le_of_ble_eq_true rfl), (Nat.le_of_ble_eq_true rfl)⟩) (fun r1 hr1 => ?_)
      replace hr1 := hr1.symm; subst hr1
      refine lv_icmp_ge (tgt := 32) hx hb d_through_11 (by decide) (fun c_11 => ?_) (fun c_11 => ?_)
      · skip
        refine lv_iload_n hx hb d_through_32 rfl (lv_at hl 1 rfl) ?_
        subst hQ
        exact W.iret hx hb hr (fun t ht hW => ⟨_, rfl, trivial, ht⟩) (fun _ h => by cases h) d_through_33
      · exact absurd (by rw [hnk, ex0]; exact nI_le (Nat.le_refl _) (by omega)) c_11
    | succ k ih =>
      intro i hi z ls x ex0 hl
      have hlt : i < kk := by omega
      refine lv_iload hx hb d_through_5 (lv_at hl 0 rfl) ?_
      refine lv_aload_n hx hb d_through_7 rfl (lv_at hl 3 rfl) ?_
      have hPc : va_P (dC, dI) classes [(c0, .inr (2, [.ref a0, .int n]))] _ := hP.sub (ws' := [(c0, .inr (2, [.ref a0, .int n]))]) [2] rfl
      have hKc : va_K (dC, dI) classes [] s := hK.sub (tys' := []) [] rfl
      refine vp_callSi (W.runV (As := []) (rest := [.int x]) ⟨hx, hb, hml, hown, hts⟩ (c_Code_length l dC dI c0 a0 n) (cwV 0 hts g_through_8 rfl rfl rfl (by decide +kernel) ⟨Nat.le_of_ble_eq_true rfl, Nat.le_of_ble_eq_true rfl⟩) ⟨fun a U g mk z => by obtain ⟨z0, zP, zK⟩ := z; exact ⟨z0, zP, va_K.moved (u := U) (U := U.calling g mk a) (Vm.Alike.refl U.vm) zK⟩, va_recv hKc hPc (ci := 2) (q0 := 0) rfl rfl, fun U hU hW => ⟨rfl, by rw [hU]; exact hPc, va_K.moved hW.alike hKc⟩⟩ rfl rfl hl.1 rfl (lv_room (Nat.le_of_ble_eq_true rfl)) d_through_8 ⟨(Nat.le_of_ble_eq_true rfl), (Nat.le_of_ble_eq_true rfl)⟩) (fun r2 hr2 => ?_)
      replace hr2 := hr2.symm; subst hr2
      refine lv_icmp_ge (tgt := 32) hx hb d_through_11 (by decide) (fun c_11 => ?_) (fun c_11 => ?_)
      · exact absurd c_11 (by rw [hnk, ex0]; exact nI_ge hlt (by omega))
      · skip
        refine lv_aload_n hx hb d_through_14 rfl (lv_at hl 2 rfl) ?_
        refine lv_aload_n hx hb d_through_15 rfl (lv_at hl 3 rfl) ?_
        refine lv_iload hx hb d_through_16 (lv_at hl 0 rfl) ?_
        have hPc : va_P (dC, dI) classes [(c0, .inr (2, [.ref a0, .int n])), (a0, .inl (cC, 8, .inl (fa)))] _ := hP.sub (ws' := [(c0, .inr (2, [.ref a0, .int n])), (a0, .inl (cC, 8, .inl (fa)))]) [2, 3] rfl
        have hKc : va_K (dC, dI) classes [(cC, .int)] s := hK.sub (tys' := [(cC, .int)]) [1] rfl
        refine vp_callSi (W.runV (As := [.int x]) (rest := [.ref qm]) ⟨hx, hb, hml, hown, hts⟩ (c_Code_get l dC dI c0 a0 n cC fa x) (cwV 1 hts g_through_18 rfl rfl rfl (by decide +kernel) ⟨Nat.le_of_ble_eq_true rfl, Nat.le_of_ble_eq_true rfl⟩) ⟨fun a U g mk z => by obtain ⟨z0, zP, zK⟩ := z; exact ⟨z0, zP, va_K.moved (u := U) (U := U.calling g mk a) (Vm.Alike.refl U.vm) zK⟩, va_recv hKc hPc (ci := 2) (q0 := 0) rfl rfl, fun U hU hW => ⟨rfl, by rw [hU]; exact hPc, va_K.moved hW.alike hKc⟩⟩ rfl rfl hl.1 rfl (lv_room (Nat.le_of_ble_eq_true rfl)) d_through_18 ⟨(Nat.le_of_ble_eq_true rfl), (Nat.le_of_ble_eq_true rfl)⟩) (fun r3 hr3 => ?_)
        refine lv_iload_n hx hb d_through_21 rfl (lv_at hl 1 rfl) ?_
        have hPc : va_P (dC, dI) classes [(qm, .inr (1, [.ref qn, .ref qa, .ref qb, .ref qc, .ref qd, .ref qe, .ref qf])), (qn, .inl (cA, 6016, .inl (f)))] _ := hP.sub (ws' := [(qm, .inr (1, [.ref qn, .ref qa, .ref qb, .ref qc, .ref qd, .ref qe, .ref qf])), (qn, .inl (cA, 6016, .inl (f)))]) [0, 1] rfl
        have hKc : va_K (dC, dI) classes [(cA, .int)] s := hK.sub (tys' := [(cA, .int)]) [0] rfl
        refine vp_callSi (W.runV (As := [.int r3, .int z]) (rest := []) ⟨hx, hb, hml, hown, hts⟩ (c_step l dC dI qm qn qa qb qc qd qe qf cA f r3 z) (cwV 2 hts g_through_22 rfl rfl rfl (by decide +kernel) ⟨Nat.le_of_ble_eq_true rfl, Nat.le_of_ble_eq_true rfl⟩) ⟨fun a U g mk z => by obtain ⟨z0, zP, zK⟩ := z; exact ⟨z0, zP, va_K.moved (u := U) (U := U.calling g mk a) (Vm.Alike.refl U.vm) zK⟩, va_recv hKc hPc (ci := 1) (q0 := 0) rfl rfl, fun U hU hW => ⟨rfl, by rw [hU]; exact hPc, va_K.moved hW.alike hKc⟩⟩ rfl rfl hl.1 rfl (lv_room (Nat.le_of_ble_eq_true rfl)) d_through_22 ⟨(Nat.le_of_ble_eq_true rfl), (Nat.le_of_ble_eq_true rfl)⟩) (fun r4 hr4 => ?_)
        refine lv_istore_n (lv' := [(3, .int r4), (4, .int x), (0, .ref qm), (1, .ref c0), (2, .int v)]) hx hb d_through_25 rfl hl (by decide) rfl (fun ls hl => ?_)
        obtain ⟨x5, ex5⟩ : ∃ y : Int32, y = x + 1 := ⟨_, rfl⟩
        refine lv_iinc (v := x5) (lv' := [(4, .int x5), (3, .int r4), (0, .ref qm), (1, .ref c0), (2, .int v)]) hx hb d_through_26 hl (k := 1) rfl (by rw [ex5]; rfl) (by decide) rfl (fun ls hl => ?_)
        refine lv_goto (tgt := 5) hx hb d_through_29 (by decide) ?_
        exact ih (i + 1) (by omega) r4 _ x5 (by rw [ex5, ex0]; exact nI_1 i) (lv_sub hl [0, 1, 2, 3, 4] rfl)
  exact loop kk 0 (by omega) _ _ _ nI_0.symm (lv_sub hl [0, 1, 2, 3, 4] rfl)

abbrev rm_bitsOf0 : Room := { frames := 0, cells := 0, slots := 0, locals := 0 }
abbrev b_bitsOf0 : ByteArray := prog_6_method_13_code
def y_bitsOf0 : MethodName := ⟨"Leastcode$Machine", "bitsOf", "(I)I"⟩
def w_bitsOf0 : List Cond := [.code ⟨"Leastcode$Machine", "bitsOf", "(I)I"⟩ prog_6_method_13_code 1 (some .int)]
theorem d_bitsOf0_0 : decode b_bitsOf0 0 = .ok (.iload_n 0, 1) := by decide +kernel
theorem d_bitsOf0_1 : decode b_bitsOf0 1 = .ok (.iconst 1, 1) := by decide +kernel
theorem d_bitsOf0_2 : decode b_bitsOf0 2 = .ok (.iand, 1) := by decide +kernel
theorem d_bitsOf0_3 : decode b_bitsOf0 3 = .ok (.ifCond .eq 8, 3) := by decide +kernel
theorem d_bitsOf0_11 : decode b_bitsOf0 11 = .ok (.iconst 0, 1) := by decide +kernel
theorem d_bitsOf0_12 : decode b_bitsOf0 12 = .ok (.iload_n 0, 1) := by decide +kernel
theorem d_bitsOf0_13 : decode b_bitsOf0 13 = .ok (.iconst 2, 1) := by decide +kernel
theorem d_bitsOf0_14 : decode b_bitsOf0 14 = .ok (.iand, 1) := by decide +kernel
theorem d_bitsOf0_15 : decode b_bitsOf0 15 = .ok (.ifCond .eq 8, 3) := by decide +kernel
theorem d_bitsOf0_23 : decode b_bitsOf0 23 = .ok (.iconst 0, 1) := by decide +kernel
theorem d_bitsOf0_24 : decode b_bitsOf0 24 = .ok (.ior, 1) := by decide +kernel
theorem d_bitsOf0_25 : decode b_bitsOf0 25 = .ok (.iload_n 0, 1) := by decide +kernel
theorem d_bitsOf0_26 : decode b_bitsOf0 26 = .ok (.iconst 4, 1) := by decide +kernel
theorem d_bitsOf0_27 : decode b_bitsOf0 27 = .ok (.iand, 1) := by decide +kernel
theorem d_bitsOf0_28 : decode b_bitsOf0 28 = .ok (.ifCond .eq 7, 3) := by decide +kernel
theorem d_bitsOf0_35 : decode b_bitsOf0 35 = .ok (.iconst 0, 1) := by decide +kernel
theorem d_bitsOf0_36 : decode b_bitsOf0 36 = .ok (.ior, 1) := by decide +kernel
theorem d_bitsOf0_37 : decode b_bitsOf0 37 = .ok (.ireturn, 1) := by decide +kernel
set_option maxHeartbeats 4000000 in
set_option maxRecDepth 100000 in
theorem c_bitsOf0 (l : Launch)  : Met l y_bitsOf0 w_bitsOf0 rm_bitsOf0 (va_Pc [.int 0] (fun U => True)) (vp_Si (fun r => r = 0)) 0 0 (fun _ => False) := by
  refine Met.ofW (cc := b_bitsOf0) (maxL := 1) (ret := (some .int)) (by decide) rfl ?_
  intro p e s m args below meth c s₁ B hml hv
  obtain ⟨rfl, -⟩ := hv
  have hx := B.exec
  have hb := B.bytes
  have hr := B.returns
  have hts := atoms_spec (ws := w_bitsOf0) B.pre
  have hown : s.vm.findClass "Leastcode$Machine" = some m.cls := findClass_of_methodNamed B.named
  have hlocks := B.notSynchronized
  have hl := lv_entry ([.int 0]) (n := 1) (Nat.le_of_ble_eq_true rfl)
  rw [lg_entry_eq]
  generalize (lg_sl ([.int 0]) ++ List.replicate (1 - (lg_sl ([.int 0])).length) Slot.unset).toArray = ls at hl ⊢
  have hl : lv_has ls 1 [(0, .int 0)] := hl
  refine lv_iload_n hx hb d_bitsOf0_0 rfl (lv_at hl 0 rfl) ?_
  refine lv_iconst (v := 1) hx hb d_bitsOf0_1 (by decide) ?_
  refine lv_iand hx hb d_bitsOf0_2 ?_
  refine lv_topi (fun x1 ex1 => ?_)
  refine lv_if_eq (tgt := 11) hx hb d_bitsOf0_3 (by decide) (fun c_3 => ?_) (fun c_3 => ?_)
  · skip
    refine lv_iconst (v := 0) hx hb d_bitsOf0_11 (by decide) ?_
    refine lv_iload_n hx hb d_bitsOf0_12 rfl (lv_at hl 0 rfl) ?_
    refine lv_iconst (v := 2) hx hb d_bitsOf0_13 (by decide) ?_
    refine lv_iand hx hb d_bitsOf0_14 ?_
    refine lv_topi (fun x2 ex2 => ?_)
    refine lv_if_eq (tgt := 23) hx hb d_bitsOf0_15 (by decide) (fun c_15 => ?_) (fun c_15 => ?_)
    · skip
      refine lv_iconst (v := 0) hx hb d_bitsOf0_23 (by decide) ?_
      refine lv_ior hx hb d_bitsOf0_24 ?_
      refine lv_topi (fun x3 ex3 => ?_)
      refine lv_iload_n hx hb d_bitsOf0_25 rfl (lv_at hl 0 rfl) ?_
      refine lv_iconst (v := 4) hx hb d_bitsOf0_26 (by decide) ?_
      refine lv_iand hx hb d_bitsOf0_27 ?_
      refine lv_topi (fun x4 ex4 => ?_)
      refine lv_if_eq (tgt := 35) hx hb d_bitsOf0_28 (by decide) (fun c_28 => ?_) (fun c_28 => ?_)
      · skip
        refine lv_iconst (v := 0) hx hb d_bitsOf0_35 (by decide) ?_
        refine lv_ior hx hb d_bitsOf0_36 ?_
        refine lv_topi (fun x5 ex5 => ?_)
        exact W.iret hx hb hr (fun t ht hW => ⟨_, rfl, (by rw [ex5, ex3]; decide), ht⟩) (fun _ h => by cases h) d_bitsOf0_37
      · exact absurd (by rw [ex4]; decide) c_28
    · exact absurd (by rw [ex2]; decide) c_15
  · exact absurd (by rw [ex1]; decide) c_3

abbrev rm_areAlike : Room := { frames := 2, cells := 0, slots := 0, locals := 47 }
abbrev b_areAlike : ByteArray := prog_6_method_26_code
def y_areAlike : MethodName := ⟨"Leastcode$Machine", "areAlike", "(LLeastcode$Code;LLeastcode$Code;I)Z"⟩
def w_areAlike : List Cond := [.code ⟨"Leastcode$Machine", "areAlike", "(LLeastcode$Code;LLeastcode$Code;I)Z"⟩ prog_6_method_26_code 6 (some .boolean), .methodLink "Leastcode$Machine" 114 ⟨"Leastcode$Machine", "bitsOf", "(I)I"⟩, .static ⟨"Leastcode$Machine", "bitsOf", "(I)I"⟩, .initialized "Leastcode$Machine", .code ⟨"Leastcode$Machine", "bitsOf", "(I)I"⟩ prog_6_method_13_code 1 (some .int), .methodLink "Leastcode$Machine" 117 ⟨"Leastcode$Machine", "through", "(LLeastcode$Code;I)I"⟩, .instanceMethod ⟨"Leastcode$Machine", "through", "(LLeastcode$Code;I)I"⟩, .selects "Leastcode$Machine" ⟨"Leastcode$Machine", "through", "(LLeastcode$Code;I)I"⟩ ⟨"Leastcode$Machine", "through", "(LLeastcode$Code;I)I"⟩, .code ⟨"Leastcode$Machine", "through", "(LLeastcode$Code;I)I"⟩ prog_6_method_19_code 5 (some .int), .methodLink "Leastcode$Machine" 89 ⟨"Leastcode$Code", "length", "()I"⟩, .instanceMethod ⟨"Leastcode$Code", "length", "()I"⟩, .selects "Leastcode$Code" ⟨"Leastcode$Code", "length", "()I"⟩ ⟨"Leastcode$Code", "length", "()I"⟩, .initialized "Leastcode$Code", .code ⟨"Leastcode$Code", "length", "()I"⟩ prog_2_method_2_code 1 (some .int), .laysFinal "Leastcode$Code" "Leastcode$Code" "numbers" "[I", .lays "Leastcode$Code" "Leastcode$Code" "length" "I", .fieldLink "Leastcode$Code" 15 "Leastcode$Code" "length" "I", .methodLink "Leastcode$Machine" 92 ⟨"Leastcode$Code", "get", "(I)I"⟩, .instanceMethod ⟨"Leastcode$Code", "get", "(I)I"⟩, .selects "Leastcode$Code" ⟨"Leastcode$Code", "get", "(I)I"⟩ ⟨"Leastcode$Code", "get", "(I)I"⟩, .code ⟨"Leastcode$Code", "get", "(I)I"⟩ prog_2_method_3_code 2 (some .int), .fieldLink "Leastcode$Code" 9 "Leastcode$Code" "numbers" "[I", .methodLink "Leastcode$Machine" 95 ⟨"Leastcode$Machine", "step", "(II)I"⟩, .instanceMethod ⟨"Leastcode$Machine", "step", "(II)I"⟩, .selects "Leastcode$Machine" ⟨"Leastcode$Machine", "step", "(II)I"⟩ ⟨"Leastcode$Machine", "step", "(II)I"⟩, .code ⟨"Leastcode$Machine", "step", "(II)I"⟩ prog_6_method_18_code 4 (some .int), .laysFinal "Leastcode$Machine" "Leastcode$Machine" "next" "[I", .laysFinal "Leastcode$Machine" "Leastcode$Machine" "readParts" "[I", .laysFinal "Leastcode$Machine" "Leastcode$Machine" "writtenParts" "[I", .laysFinal "Leastcode$Machine" "Leastcode$Machine" "mirrors" "[I", .laysFinal "Leastcode$Machine" "Leastcode$Machine" "toRegister0" "[J", .laysFinal "Leastcode$Machine" "Leastcode$Machine" "toRegister1" "[J", .laysFinal "Leastcode$Machine" "Leastcode$Machine" "toFlag" "[J", .fieldLink "Leastcode$Machine" 9 "Leastcode$Machine" "next" "[I"]
theorem d_areAlike_0 : decode b_areAlike 0 = .ok (.iload_n 3, 1) := by decide +kernel
theorem d_areAlike_1 : decode b_areAlike 1 = .ok (.invokestatic 114, 3) := by decide +kernel
theorem d_areAlike_4 : decode b_areAlike 4 = .ok (.istore 4, 2) := by decide +kernel
theorem d_areAlike_6 : decode b_areAlike 6 = .ok (.iconst 0, 1) := by decide +kernel
theorem d_areAlike_7 : decode b_areAlike 7 = .ok (.istore 5, 2) := by decide +kernel
theorem d_areAlike_9 : decode b_areAlike 9 = .ok (.iload 5, 2) := by decide +kernel
theorem d_areAlike_11 : decode b_areAlike 11 = .ok (.sipush 128, 3) := by decide +kernel
theorem d_areAlike_14 : decode b_areAlike 14 = .ok (.if_icmp .ge 32, 3) := by decide +kernel
theorem d_areAlike_17 : decode b_areAlike 17 = .ok (.aload_n 0, 1) := by decide +kernel
theorem d_areAlike_18 : decode b_areAlike 18 = .ok (.aload_n 1, 1) := by decide +kernel
theorem d_areAlike_19 : decode b_areAlike 19 = .ok (.iload 5, 2) := by decide +kernel
theorem d_areAlike_21 : decode b_areAlike 21 = .ok (.invokevirtual 117, 3) := by decide +kernel
theorem d_areAlike_24 : decode b_areAlike 24 = .ok (.aload_n 0, 1) := by decide +kernel
theorem d_areAlike_25 : decode b_areAlike 25 = .ok (.aload_n 2, 1) := by decide +kernel
theorem d_areAlike_26 : decode b_areAlike 26 = .ok (.iload 5, 2) := by decide +kernel
theorem d_areAlike_28 : decode b_areAlike 28 = .ok (.invokevirtual 117, 3) := by decide +kernel
theorem d_areAlike_31 : decode b_areAlike 31 = .ok (.ixor, 1) := by decide +kernel
theorem d_areAlike_32 : decode b_areAlike 32 = .ok (.iload 4, 2) := by decide +kernel
theorem d_areAlike_34 : decode b_areAlike 34 = .ok (.iand, 1) := by decide +kernel
theorem d_areAlike_35 : decode b_areAlike 35 = .ok (.ifCond .eq 5, 3) := by decide +kernel
theorem d_areAlike_40 : decode b_areAlike 40 = .ok (.iinc 5 1, 3) := by decide +kernel
theorem d_areAlike_43 : decode b_areAlike 43 = .ok (.goto (-34), 3) := by decide +kernel
theorem d_areAlike_46 : decode b_areAlike 46 = .ok (.iconst 1, 1) := by decide +kernel
theorem d_areAlike_47 : decode b_areAlike 47 = .ok (.ireturn, 1) := by decide +kernel
set_option maxRecDepth 20000 in
theorem g_areAlike_1 : GoodIn w_areAlike (wsS "Leastcode$Machine" 114 ⟨"Leastcode$Machine", "bitsOf", "(I)I"⟩ w_bitsOf0) := goodIn_r _ [1, 2, 3, 4] rfl (by decide +kernel)
set_option maxRecDepth 20000 in
theorem g_areAlike_21 : GoodIn w_areAlike (wsV "Leastcode$Machine" 117 "Leastcode$Machine" ⟨"Leastcode$Machine", "through", "(LLeastcode$Code;I)I"⟩ w_through) := goodIn_r _ [5, 6, 7, 3, 8, 9, 10, 11, 12, 13, 14, 15, 16, 17, 18, 19, 20, 21, 22, 23, 24, 3, 25, 26, 27, 28, 29, 30, 31, 32, 33] rfl (by decide +kernel)
set_option maxRecDepth 20000 in
theorem g_areAlike_28 : GoodIn w_areAlike (wsV "Leastcode$Machine" 117 "Leastcode$Machine" ⟨"Leastcode$Machine", "through", "(LLeastcode$Code;I)I"⟩ w_through) := goodIn_r _ [5, 6, 7, 3, 8, 9, 10, 11, 12, 13, 14, 15, 16, 17, 18, 19, 20, 21, 22, 23, 24, 3, 25, 26, 27, 28, 29, 30, 31, 32, 33] rfl (by decide +kernel)
set_option maxHeartbeats 4000000 in
set_option maxRecDepth 100000 in
theorem c_areAlike (l : Launch) (dC : Nat → ClassId) (dI : Nat → Nat → Nat) (qm : Nat) (qn : Nat) (qa : Nat) (qb : Nat) (qc : Nat) (qd : Nat) (qe : Nat) (qf : Nat) (cA : ClassId) (f : Nat → Int32) (c0 : Nat) (a0 : Nat) (n : Int32) (cC : ClassId) (fa : Nat → Int32) (kk : Nat) (hnk : n = nI kk) (hkk : kk ≤ 8) : Met l y_areAlike w_areAlike rm_areAlike (va_Pc [.ref qm, .ref c0, .ref c0, .int 0] (fun U => va_P (dC, dI) classes [(qm, .inr (1, [.ref qn, .ref qa, .ref qb, .ref qc, .ref qd, .ref qe, .ref qf])), (qn, .inl (cA, 6016, .inl (f))), (c0, .inr (2, [.ref a0, .int n])), (a0, .inl (cC, 8, .inl (fa)))] U.heap ∧ va_K (dC, dI) classes [(cA, .int), (cC, .int)] U)) (vp_Si (fun r => r = 1)) 0 0 (fun _ => False) := by
  refine Met.ofW (cc := b_areAlike) (maxL := 6) (ret := (some .boolean)) (by decide) rfl ?_
  intro p e s m args below meth c s₁ B hml hv
  obtain ⟨rfl, hP, hK⟩ := hv
  have hx := B.exec
  have hb := B.bytes
  have hr := B.returns
  have hts := atoms_spec (ws := w_areAlike) B.pre
  have hown : s.vm.findClass "Leastcode$Machine" = some m.cls := findClass_of_methodNamed B.named
  have hlocks := B.notSynchronized
  have hP : va_P (dC, dI) classes [(qm, .inr (1, [.ref qn, .ref qa, .ref qb, .ref qc, .ref qd, .ref qe, .ref qf])), (qn, .inl (cA, 6016, .inl (f))), (c0, .inr (2, [.ref a0, .int n])), (a0, .inl (cC, 8, .inl (fa)))] s.heap := hP
  have hl := lv_entry ([.ref qm, .ref c0, .ref c0, .int 0]) (n := 6) (Nat.le_of_ble_eq_true rfl)
  rw [lg_entry_eq]
  generalize (lg_sl ([.ref qm, .ref c0, .ref c0, .int 0]) ++ List.replicate (6 - (lg_sl ([.ref qm, .ref c0, .ref c0, .int 0])).length) Slot.unset).toArray = ls at hl ⊢
  have hl : lv_has ls 6 [(0, .ref qm), (1, .ref c0), (2, .ref c0), (3, .int 0)] := hl
  refine lv_iload_n hx hb d_areAlike_0 rfl (lv_at hl 3 rfl) ?_
  refine vp_callSi (W.runS (As := [.int 0]) (rest := []) ⟨hx, hb, hml, hown, hts⟩ (c_bitsOf0 l ) (cwS 1 hts g_areAlike_1 rfl rfl rfl (by decide +kernel) ⟨Nat.le_of_ble_eq_true rfl, Nat.le_of_ble_eq_true rfl⟩) ⟨fun a U g mk z => z, fun U hU hW => ⟨rfl, trivial⟩⟩ rfl rfl hl.1 rfl (lv_room (Nat.le_of_ble_eq_true rfl)) d_areAlike_1 ⟨(Nat.le_of_ble_eq_true rfl), (Nat.le_of_ble_eq_true rfl)⟩) (fun r1 hr1 => ?_)
  replace hr1 := hr1.symm; subst hr1
  refine lv_istore (lv' := [(4, .int 0), (0, .ref qm), (1, .ref c0), (2, .ref c0), (3, .int 0)]) hx hb d_areAlike_4 hl (by decide) rfl (fun ls hl => ?_)
  refine lv_iconst (v := 0) hx hb d_areAlike_6 (by decide) ?_
  refine lv_istore (lv' := [(5, .int 0), (4, .int 0), (0, .ref qm), (1, .ref c0), (2, .ref c0), (3, .int 0)]) hx hb d_areAlike_7 hl (by decide) rfl (fun ls hl => ?_)
  refine ry_abs (fun QQ hQ => ?_)
  have loop : ∀ (k i : Nat), i + k = 128 → ∀ (ls : Array Slot) (x : Int32), x = nI i → lv_has ls 6 [(5, .int x), (4, .int 0), (0, .ref qm), (1, .ref c0), (2, .ref c0), (3, .int 0)] → W p l e (headSpec w_areAlike rm_areAlike).room s m ([.ref qm, .ref c0, .ref c0, .int 0] : List Value).toArray below meth c s.heap [] (0) (0) QQ (F0 m 9 ls []) := by
    intro k
    induction k with
    | zero =>
      intro i hi ls x ex0 hl
      obtain rfl : i = 128 := by omega
      refine lv_iload hx hb d_areAlike_9 (lv_at hl 0 rfl) ?_
      refine lv_sipush (v := 128) hx hb d_areAlike_11 (by decide) ?_
      refine lv_icmp_ge (tgt := 46) hx hb d_areAlike_14 (by decide) (fun c_14 => ?_) (fun c_14 => ?_)
      · skip
        refine lv_iconst (v := 1) hx hb d_areAlike_46 (by decide) ?_
        subst hQ
        exact W.zret hx hb hr rfl (fun t ht hW => ⟨_, rfl, rfl, ht⟩) (fun _ h => by cases h) d_areAlike_47
      · exact absurd (by rw [ex0]; exact (show nI 128 ≤ nI 128 from nI_le (Nat.le_refl 128) (by omega))) c_14
    | succ k ih =>
      intro i hi ls x ex0 hl
      have hlt : i < 128 := by omega
      refine lv_iload hx hb d_areAlike_9 (lv_at hl 0 rfl) ?_
      refine lv_sipush (v := 128) hx hb d_areAlike_11 (by decide) ?_
      refine lv_icmp_ge (tgt := 46) hx hb d_areAlike_14 (by decide) (fun c_14 => ?_) (fun c_14 => ?_)
      · exact absurd c_14 (by rw [ex0]; exact (show ¬ nI 128 ≤ nI i from nI_ge hlt (by omega)))
      · skip
        refine lv_aload_n hx hb d_areAlike_17 rfl (lv_at hl 2 rfl) ?_
        refine lv_aload_n hx hb d_areAlike_18 rfl (lv_at hl 3 rfl) ?_
        refine lv_iload hx hb d_areAlike_19 (lv_at hl 0 rfl) ?_
        have hPc : va_P (dC, dI) classes [(qm, .inr (1, [.ref qn, .ref qa, .ref qb, .ref qc, .ref qd, .ref qe, .ref qf])), (qn, .inl (cA, 6016, .inl (f))), (c0, .inr (2, [.ref a0, .int n])), (a0, .inl (cC, 8, .inl (fa)))] _ := hP.sub (ws' := [(qm, .inr (1, [.ref qn, .ref qa, .ref qb, .ref qc, .ref qd, .ref qe, .ref qf])), (qn, .inl (cA, 6016, .inl (f))), (c0, .inr (2, [.ref a0, .int n])), (a0, .inl (cC, 8, .inl (fa)))]) [0, 1, 2, 3] rfl
        have hKc : va_K (dC, dI) classes [(cA, .int), (cC, .int)] s := hK.sub (tys' := [(cA, .int), (cC, .int)]) [0, 1] rfl
        refine vp_callSi (W.runV (As := [.ref c0, .int x]) (rest := []) ⟨hx, hb, hml, hown, hts⟩ (c_through l dC dI qm qn qa qb qc qd qe qf cA f c0 a0 n cC fa kk x hnk hkk) (cwV 2 hts g_areAlike_21 rfl rfl rfl (by decide +kernel) ⟨Nat.le_of_ble_eq_true rfl, Nat.le_of_ble_eq_true rfl⟩) ⟨fun a U g mk z => by obtain ⟨z0, zP, zK⟩ := z; exact ⟨z0, zP, va_K.moved (u := U) (U := U.calling g mk a) (Vm.Alike.refl U.vm) zK⟩, va_recv hKc hPc (ci := 1) (q0 := 0) rfl rfl, fun U hU hW => ⟨rfl, by rw [hU]; exact hPc, va_K.moved hW.alike hKc⟩⟩ rfl rfl hl.1 rfl (lv_room (Nat.le_of_ble_eq_true rfl)) d_areAlike_21 ⟨(Nat.le_of_ble_eq_true rfl), (Nat.le_of_ble_eq_true rfl)⟩) (fun r2 hr2 => ?_)
        refine lv_aload_n hx hb d_areAlike_24 rfl (lv_at hl 2 rfl) ?_
        refine lv_aload_n hx hb d_areAlike_25 rfl (lv_at hl 4 rfl) ?_
        refine lv_iload hx hb d_areAlike_26 (lv_at hl 0 rfl) ?_
        have hPc : va_P (dC, dI) classes [(qm, .inr (1, [.ref qn, .ref qa, .ref qb, .ref qc, .ref qd, .ref qe, .ref qf])), (qn, .inl (cA, 6016, .inl (f))), (c0, .inr (2, [.ref a0, .int n])), (a0, .inl (cC, 8, .inl (fa)))] _ := hP.sub (ws' := [(qm, .inr (1, [.ref qn, .ref qa, .ref qb, .ref qc, .ref qd, .ref qe, .ref qf])), (qn, .inl (cA, 6016, .inl (f))), (c0, .inr (2, [.ref a0, .int n])), (a0, .inl (cC, 8, .inl (fa)))]) [0, 1, 2, 3] rfl
        have hKc : va_K (dC, dI) classes [(cA, .int), (cC, .int)] s := hK.sub (tys' := [(cA, .int), (cC, .int)]) [0, 1] rfl
        refine vp_callSi (W.runV (As := [.ref c0, .int x]) (rest := [.int r2]) ⟨hx, hb, hml, hown, hts⟩ (c_through l dC dI qm qn qa qb qc qd qe qf cA f c0 a0 n cC fa kk x hnk hkk) (cwV 2 hts g_areAlike_28 rfl rfl rfl (by decide +kernel) ⟨Nat.le_of_ble_eq_true rfl, Nat.le_of_ble_eq_true rfl⟩) ⟨fun a U g mk z => by obtain ⟨z0, zP, zK⟩ := z; exact ⟨z0, zP, va_K.moved (u := U) (U := U.calling g mk a) (Vm.Alike.refl U.vm) zK⟩, va_recv hKc hPc (ci := 1) (q0 := 0) rfl rfl, fun U hU hW => ⟨rfl, by rw [hU]; exact hPc, va_K.moved hW.alike hKc⟩⟩ rfl rfl hl.1 rfl (lv_room (Nat.le_of_ble_eq_true rfl)) d_areAlike_28 ⟨(Nat.le_of_ble_eq_true rfl), (Nat.le_of_ble_eq_true rfl)⟩) (fun r3 hr3 => ?_)
        refine lv_ixor hx hb d_areAlike_31 ?_
        refine lv_topi (fun x4 ex4 => ?_)
        refine lv_iload hx hb d_areAlike_32 (lv_at hl 1 rfl) ?_
        refine lv_iand hx hb d_areAlike_34 ?_
        refine lv_topi (fun x5 ex5 => ?_)
        refine lv_if_eq (tgt := 40) hx hb d_areAlike_35 (by decide) (fun c_35 => ?_) (fun c_35 => ?_)
        · skip
          obtain ⟨x6, ex6⟩ : ∃ y : Int32, y = x + 1 := ⟨_, rfl⟩
          refine lv_iinc (v := x6) (lv' := [(5, .int x6), (4, .int 0), (0, .ref qm), (1, .ref c0), (2, .ref c0), (3, .int 0)]) hx hb d_areAlike_40 hl (k := 0) rfl (by rw [ex6]; rfl) (by decide) rfl (fun ls hl => ?_)
          refine lv_goto (tgt := 9) hx hb d_areAlike_43 (by decide) ?_
          exact ih (i + 1) (by omega) _ x6 (by rw [ex6, ex0]; exact nI_1 i) (lv_sub hl [0, 1, 2, 3, 4, 5] rfl)
        · exact absurd (by rw [ex5]; exact ry_and0 _) c_35
  exact loop 128 0 rfl _ _ nI_0.symm (lv_sub hl [0, 1, 2, 3, 4, 5] rfl)

abbrev rm_LC_isSame : Room := { frames := 3, cells := 0, slots := 0, locals := 72 }
abbrev b_LC_isSame : ByteArray := prog_1_method_15_code
def y_LC_isSame : MethodName := ⟨"Leastcode", "isSame", "(III)Z"⟩
def w_LC_isSame : List Cond := [.code ⟨"Leastcode", "isSame", "(III)Z"⟩ prog_1_method_15_code 6 (some .boolean), .methodLink "Leastcode" 88 ⟨"Leastcode", "programAt", "(I)LLeastcode$Code;"⟩, .instanceMethod ⟨"Leastcode", "programAt", "(I)LLeastcode$Code;"⟩, .selects "Leastcode" ⟨"Leastcode", "programAt", "(I)LLeastcode$Code;"⟩ ⟨"Leastcode", "programAt", "(I)LLeastcode$Code;"⟩, .initialized "Leastcode", .code ⟨"Leastcode", "programAt", "(I)LLeastcode$Code;"⟩ prog_1_method_40_code 2 (some (.object "Leastcode$Code")), .laysFinal "Leastcode" "Leastcode" "machine" "LLeastcode$Machine;", .laysFinal "Leastcode" "Leastcode" "prices" "LLeastcode$Prices;", .laysFinal "Leastcode" "Leastcode" "lots" "LLeastcode$Lots;", .laysFinal "Leastcode" "Leastcode" "search" "LLeastcode$Search;", .laysFinal "Leastcode" "Leastcode" "programs" "[LLeastcode$Code;", .lays "Leastcode" "Leastcode" "programCount" "I", .laysFinal "Leastcode" "Leastcode" "goals" "[LLeastcode$Goal;", .lays "Leastcode" "Leastcode" "goalCount" "I", .laysFinal "Leastcode" "Leastcode" "rules" "[LLeastcode$Rule;", .lays "Leastcode" "Leastcode" "ruleCount" "I", .laysFinal "Leastcode" "Leastcode" "killed" "[I", .laysFinal "Leastcode" "Leastcode" "unlikeUpTo" "[I", .laysFinal "Leastcode" "Leastcode" "found" "LLeastcode$Code;", .lays "Leastcode" "Leastcode" "hasFound" "Z", .laysFinal "Leastcode" "Leastcode" "draft" "LLeastcode$Code;", .laysFinal "Leastcode" "Leastcode" "shorter" "LLeastcode$Code;", .laysFinal "Leastcode" "Leastcode" "windowGoal" "LLeastcode$Goal;", .fieldLink "Leastcode" 84 "Leastcode" "programCount" "I", .fieldLink "Leastcode" 41 "Leastcode" "programs" "[LLeastcode$Code;", .methodLink "Leastcode" 162 ⟨"Leastcode", "refuseBadParts", "(I)V"⟩, .static ⟨"Leastcode", "refuseBadParts", "(I)V"⟩, .code ⟨"Leastcode", "refuseBadParts", "(I)V"⟩ prog_1_method_45_code 1 none, .methodLink "Leastcode" 143 ⟨"Leastcode", "refuseOutside", "(III)V"⟩, .static ⟨"Leastcode", "refuseOutside", "(III)V"⟩, .code ⟨"Leastcode", "refuseOutside", "(III)V"⟩ prog_1_method_43_code 3 none, .fieldLink "Leastcode" 10 "Leastcode" "machine" "LLeastcode$Machine;", .methodLink "Leastcode" 172 ⟨"Leastcode$Machine", "areAlike", "(LLeastcode$Code;LLeastcode$Code;I)Z"⟩, .instanceMethod ⟨"Leastcode$Machine", "areAlike", "(LLeastcode$Code;LLeastcode$Code;I)Z"⟩, .selects "Leastcode$Machine" ⟨"Leastcode$Machine", "areAlike", "(LLeastcode$Code;LLeastcode$Code;I)Z"⟩ ⟨"Leastcode$Machine", "areAlike", "(LLeastcode$Code;LLeastcode$Code;I)Z"⟩, .initialized "Leastcode$Machine", .code ⟨"Leastcode$Machine", "areAlike", "(LLeastcode$Code;LLeastcode$Code;I)Z"⟩ prog_6_method_26_code 6 (some .boolean), .methodLink "Leastcode$Machine" 114 ⟨"Leastcode$Machine", "bitsOf", "(I)I"⟩, .static ⟨"Leastcode$Machine", "bitsOf", "(I)I"⟩, .code ⟨"Leastcode$Machine", "bitsOf", "(I)I"⟩ prog_6_method_13_code 1 (some .int), .methodLink "Leastcode$Machine" 117 ⟨"Leastcode$Machine", "through", "(LLeastcode$Code;I)I"⟩, .instanceMethod ⟨"Leastcode$Machine", "through", "(LLeastcode$Code;I)I"⟩, .selects "Leastcode$Machine" ⟨"Leastcode$Machine", "through", "(LLeastcode$Code;I)I"⟩ ⟨"Leastcode$Machine", "through", "(LLeastcode$Code;I)I"⟩, .code ⟨"Leastcode$Machine", "through", "(LLeastcode$Code;I)I"⟩ prog_6_method_19_code 5 (some .int), .methodLink "Leastcode$Machine" 89 ⟨"Leastcode$Code", "length", "()I"⟩, .instanceMethod ⟨"Leastcode$Code", "length", "()I"⟩, .selects "Leastcode$Code" ⟨"Leastcode$Code", "length", "()I"⟩ ⟨"Leastcode$Code", "length", "()I"⟩, .initialized "Leastcode$Code", .code ⟨"Leastcode$Code", "length", "()I"⟩ prog_2_method_2_code 1 (some .int), .laysFinal "Leastcode$Code" "Leastcode$Code" "numbers" "[I", .lays "Leastcode$Code" "Leastcode$Code" "length" "I", .fieldLink "Leastcode$Code" 15 "Leastcode$Code" "length" "I", .methodLink "Leastcode$Machine" 92 ⟨"Leastcode$Code", "get", "(I)I"⟩, .instanceMethod ⟨"Leastcode$Code", "get", "(I)I"⟩, .selects "Leastcode$Code" ⟨"Leastcode$Code", "get", "(I)I"⟩ ⟨"Leastcode$Code", "get", "(I)I"⟩, .code ⟨"Leastcode$Code", "get", "(I)I"⟩ prog_2_method_3_code 2 (some .int), .fieldLink "Leastcode$Code" 9 "Leastcode$Code" "numbers" "[I", .methodLink "Leastcode$Machine" 95 ⟨"Leastcode$Machine", "step", "(II)I"⟩, .instanceMethod ⟨"Leastcode$Machine", "step", "(II)I"⟩, .selects "Leastcode$Machine" ⟨"Leastcode$Machine", "step", "(II)I"⟩ ⟨"Leastcode$Machine", "step", "(II)I"⟩, .code ⟨"Leastcode$Machine", "step", "(II)I"⟩ prog_6_method_18_code 4 (some .int), .laysFinal "Leastcode$Machine" "Leastcode$Machine" "next" "[I", .laysFinal "Leastcode$Machine" "Leastcode$Machine" "readParts" "[I", .laysFinal "Leastcode$Machine" "Leastcode$Machine" "writtenParts" "[I", .laysFinal "Leastcode$Machine" "Leastcode$Machine" "mirrors" "[I", .laysFinal "Leastcode$Machine" "Leastcode$Machine" "toRegister0" "[J", .laysFinal "Leastcode$Machine" "Leastcode$Machine" "toRegister1" "[J", .laysFinal "Leastcode$Machine" "Leastcode$Machine" "toFlag" "[J", .fieldLink "Leastcode$Machine" 9 "Leastcode$Machine" "next" "[I"]
theorem d_LC_isSame_0 : decode b_LC_isSame 0 = .ok (.aload_n 0, 1) := by decide +kernel
theorem d_LC_isSame_1 : decode b_LC_isSame 1 = .ok (.iload_n 1, 1) := by decide +kernel
theorem d_LC_isSame_2 : decode b_LC_isSame 2 = .ok (.invokevirtual 88, 3) := by decide +kernel
theorem d_LC_isSame_5 : decode b_LC_isSame 5 = .ok (.astore 4, 2) := by decide +kernel
theorem d_LC_isSame_7 : decode b_LC_isSame 7 = .ok (.aload_n 0, 1) := by decide +kernel
theorem d_LC_isSame_8 : decode b_LC_isSame 8 = .ok (.iload_n 2, 1) := by decide +kernel
theorem d_LC_isSame_9 : decode b_LC_isSame 9 = .ok (.invokevirtual 88, 3) := by decide +kernel
theorem d_LC_isSame_12 : decode b_LC_isSame 12 = .ok (.astore 5, 2) := by decide +kernel
theorem d_LC_isSame_14 : decode b_LC_isSame 14 = .ok (.iload_n 3, 1) := by decide +kernel
theorem d_LC_isSame_15 : decode b_LC_isSame 15 = .ok (.invokestatic 162, 3) := by decide +kernel
theorem d_LC_isSame_18 : decode b_LC_isSame 18 = .ok (.aload_n 0, 1) := by decide +kernel
theorem d_LC_isSame_19 : decode b_LC_isSame 19 = .ok (.getfield 10, 3) := by decide +kernel
theorem d_LC_isSame_22 : decode b_LC_isSame 22 = .ok (.aload 4, 2) := by decide +kernel
theorem d_LC_isSame_24 : decode b_LC_isSame 24 = .ok (.aload 5, 2) := by decide +kernel
theorem d_LC_isSame_26 : decode b_LC_isSame 26 = .ok (.iload_n 3, 1) := by decide +kernel
theorem d_LC_isSame_27 : decode b_LC_isSame 27 = .ok (.invokevirtual 172, 3) := by decide +kernel
theorem d_LC_isSame_30 : decode b_LC_isSame 30 = .ok (.ireturn, 1) := by decide +kernel
theorem in_LC_isSame_LC : ∀ v ∈ u_ws R_LC T_LC 17, v ∈ w_LC_isSame := by decide +kernel
set_option maxRecDepth 20000 in
theorem g_LC_isSame_2 : GoodIn w_LC_isSame (wsV "Leastcode" 88 "Leastcode" ⟨"Leastcode", "programAt", "(I)LLeastcode$Code;"⟩ w_programAt) := goodIn_r _ [1, 2, 3, 4, 5, 6, 7, 8, 9, 10, 11, 12, 13, 14, 15, 16, 17, 18, 19, 20, 21, 22, 23, 24] rfl (by decide +kernel)
set_option maxRecDepth 20000 in
theorem g_LC_isSame_9 : GoodIn w_LC_isSame (wsV "Leastcode" 88 "Leastcode" ⟨"Leastcode", "programAt", "(I)LLeastcode$Code;"⟩ w_programAt) := goodIn_r _ [1, 2, 3, 4, 5, 6, 7, 8, 9, 10, 11, 12, 13, 14, 15, 16, 17, 18, 19, 20, 21, 22, 23, 24] rfl (by decide +kernel)
set_option maxRecDepth 20000 in
theorem g_LC_isSame_15 : GoodIn w_LC_isSame (wsS "Leastcode" 162 ⟨"Leastcode", "refuseBadParts", "(I)V"⟩ w_refuseBadParts) := goodIn_r _ [25, 26, 4, 27, 28, 29, 4, 30] rfl (by decide +kernel)
set_option maxRecDepth 20000 in
theorem g_LC_isSame_27 : GoodIn w_LC_isSame (wsV "Leastcode" 172 "Leastcode$Machine" ⟨"Leastcode$Machine", "areAlike", "(LLeastcode$Code;LLeastcode$Code;I)Z"⟩ w_areAlike) := goodIn_r _ [32, 33, 34, 35, 36, 37, 38, 35, 39, 40, 41, 42, 43, 44, 45, 46, 47, 48, 49, 50, 51, 52, 53, 54, 55, 56, 57, 58, 59, 60, 61, 62, 63, 64, 65, 66, 67, 68] rfl (by decide +kernel)
set_option maxHeartbeats 4000000 in
set_option maxRecDepth 100000 in
theorem c_LC_isSame (l : Launch) (dC : Nat → ClassId) (dI : Nat → Nat → Nat) (h0 : Nat) (qm : Nat) (qp : Nat) (y1 : Nat) (y2 : Nat) (y3 : Nat) (y4 : Nat) (y5 : Nat) (y6 : Nat) (y7 : Nat) (y8 : Nat) (y9 : Nat) (y10 : Nat) (y11 : Nat) (qn : Nat) (qa : Nat) (qb : Nat) (qc : Nat) (qd : Nat) (qe : Nat) (qf : Nat) (cA : ClassId) (f : Nat → Int32) (cB : ClassId) (fp : Nat → Option Nat) (c0 : Nat) (a0 : Nat) (n : Int32) (cC : ClassId) (fa : Nat → Int32) (kk : Nat) (hf : fp 0 = some c0) (hnk : n = nI kk) (hkk : kk ≤ 8) : Met l y_LC_isSame w_LC_isSame rm_LC_isSame (va_Pc [.ref h0, .int 0, .int 0, .int 0] (fun U => va_P (dC, dI) classes [(h0, .inr (0, [.ref qm, .ref y1, .ref y2, .ref y3, .ref qp, .int 1, .ref y4, .int 0, .ref y5, .int 0, .ref y6, .ref y7, .ref y8, .int 0, .ref y9, .ref y10, .ref y11])), (qm, .inr (1, [.ref qn, .ref qa, .ref qb, .ref qc, .ref qd, .ref qe, .ref qf])), (qn, .inl (cA, 6016, .inl (f))), (qp, .inl (cB, 8, .inr (.inr (.inr (.inr (fp)))))), (c0, .inr (2, [.ref a0, .int n])), (a0, .inl (cC, 8, .inl (fa)))] U.heap ∧ va_K (dC, dI) classes [(cA, .int), (cB, .object "Leastcode$Code"), (cC, .int)] U)) (vp_Si (fun r => r = 1)) 0 0 (fun _ => False) := by
  refine Met.ofW (cc := b_LC_isSame) (maxL := 6) (ret := (some .boolean)) (by decide) rfl ?_
  intro p e s m args below meth c s₁ B hml hv
  obtain ⟨rfl, hP, hK⟩ := hv
  have hx := B.exec
  have hb := B.bytes
  have hr := B.returns
  have hts := atoms_spec (ws := w_LC_isSame) B.pre
  have hown : s.vm.findClass "Leastcode" = some m.cls := findClass_of_methodNamed B.named
  have hlocks := B.notSynchronized
  have hP : va_P (dC, dI) classes [(h0, .inr (0, [.ref qm, .ref y1, .ref y2, .ref y3, .ref qp, .int 1, .ref y4, .int 0, .ref y5, .int 0, .ref y6, .ref y7, .ref y8, .int 0, .ref y9, .ref y10, .ref y11])), (qm, .inr (1, [.ref qn, .ref qa, .ref qb, .ref qc, .ref qd, .ref qe, .ref qf])), (qn, .inl (cA, 6016, .inl (f))), (qp, .inl (cB, 8, .inr (.inr (.inr (.inr (fp)))))), (c0, .inr (2, [.ref a0, .int n])), (a0, .inl (cC, 8, .inl (fa)))] s.heap := hP
  have hl := lv_entry ([.ref h0, .int 0, .int 0, .int 0]) (n := 6) (Nat.le_of_ble_eq_true rfl)
  rw [lg_entry_eq]
  generalize (lg_sl ([.ref h0, .int 0, .int 0, .int 0]) ++ List.replicate (6 - (lg_sl ([.ref h0, .int 0, .int 0, .int 0])).length) Slot.unset).toArray = ls at hl ⊢
  have hl : lv_has ls 6 [(0, .ref h0), (1, .int 0), (2, .int 0), (3, .int 0)] := hl
  refine lv_aload_n hx hb d_LC_isSame_0 rfl (lv_at hl 0 rfl) ?_
  refine lv_iload_n hx hb d_LC_isSame_1 rfl (lv_at hl 1 rfl) ?_
  have hPc : va_P (dC, dI) classes [(h0, .inr (0, [.ref qm, .ref y1, .ref y2, .ref y3, .ref qp, .int 1, .ref y4, .int 0, .ref y5, .int 0, .ref y6, .ref y7, .ref y8, .int 0, .ref y9, .ref y10, .ref y11])), (qp, .inl (cB, 8, .inr (.inr (.inr (.inr (fp))))))] _ := hP.sub (ws' := [(h0, .inr (0, [.ref qm, .ref y1, .ref y2, .ref y3, .ref qp, .int 1, .ref y4, .int 0, .ref y5, .int 0, .ref y6, .ref y7, .ref y8, .int 0, .ref y9, .ref y10, .ref y11])), (qp, .inl (cB, 8, .inr (.inr (.inr (.inr (fp))))))]) [0, 3] rfl
  have hKc : va_K (dC, dI) classes [(cB, .object "Leastcode$Code")] s := hK.sub (tys' := [(cB, .object "Leastcode$Code")]) [1] rfl
  refine va_csr (W.runV (As := [.int 0]) (rest := []) ⟨hx, hb, hml, hown, hts⟩ (c_programAt l dC dI h0 qm qp y1 y2 y3 y4 y5 y6 y7 y8 y9 y10 y11 cB fp c0 hf) (cwV 1 hts g_LC_isSame_2 rfl rfl rfl (by decide +kernel) ⟨Nat.le_of_ble_eq_true rfl, Nat.le_of_ble_eq_true rfl⟩) ⟨fun a U g mk z => by obtain ⟨z0, zP, zK⟩ := z; exact ⟨z0, zP, va_K.moved (u := U) (U := U.calling g mk a) (Vm.Alike.refl U.vm) zK⟩, va_recv hKc hPc (ci := 0) (q0 := 0) rfl rfl, fun U hU hW => ⟨rfl, by rw [hU]; exact hPc, va_K.moved hW.alike hKc⟩⟩ rfl rfl hl.1 rfl (lv_room (Nat.le_of_ble_eq_true rfl)) d_LC_isSame_2 ⟨(Nat.le_of_ble_eq_true rfl), (Nat.le_of_ble_eq_true rfl)⟩) (fun r1 hr1 => ?_)
  replace hr1 := hr1.symm; subst hr1
  refine lv_astore (lv' := [(4, .ref c0), (0, .ref h0), (1, .int 0), (2, .int 0), (3, .int 0)]) hx hb d_LC_isSame_5 hl (by decide) rfl (fun ls hl => ?_)
  refine lv_aload_n hx hb d_LC_isSame_7 rfl (lv_at hl 1 rfl) ?_
  refine lv_iload_n hx hb d_LC_isSame_8 rfl (lv_at hl 3 rfl) ?_
  have hPc : va_P (dC, dI) classes [(h0, .inr (0, [.ref qm, .ref y1, .ref y2, .ref y3, .ref qp, .int 1, .ref y4, .int 0, .ref y5, .int 0, .ref y6, .ref y7, .ref y8, .int 0, .ref y9, .ref y10, .ref y11])), (qp, .inl (cB, 8, .inr (.inr (.inr (.inr (fp))))))] _ := hP.sub (ws' := [(h0, .inr (0, [.ref qm, .ref y1, .ref y2, .ref y3, .ref qp, .int 1, .ref y4, .int 0, .ref y5, .int 0, .ref y6, .ref y7, .ref y8, .int 0, .ref y9, .ref y10, .ref y11])), (qp, .inl (cB, 8, .inr (.inr (.inr (.inr (fp))))))]) [0, 3] rfl
  have hKc : va_K (dC, dI) classes [(cB, .object "Leastcode$Code")] s := hK.sub (tys' := [(cB, .object "Leastcode$Code")]) [1] rfl
  refine va_csr (W.runV (As := [.int 0]) (rest := []) ⟨hx, hb, hml, hown, hts⟩ (c_programAt l dC dI h0 qm qp y1 y2 y3 y4 y5 y6 y7 y8 y9 y10 y11 cB fp c0 hf) (cwV 1 hts g_LC_isSame_9 rfl rfl rfl (by decide +kernel) ⟨Nat.le_of_ble_eq_true rfl, Nat.le_of_ble_eq_true rfl⟩) ⟨fun a U g mk z => by obtain ⟨z0, zP, zK⟩ := z; exact ⟨z0, zP, va_K.moved (u := U) (U := U.calling g mk a) (Vm.Alike.refl U.vm) zK⟩, va_recv hKc hPc (ci := 0) (q0 := 0) rfl rfl, fun U hU hW => ⟨rfl, by rw [hU]; exact hPc, va_K.moved hW.alike hKc⟩⟩ rfl rfl hl.1 rfl (lv_room (Nat.le_of_ble_eq_true rfl)) d_LC_isSame_9 ⟨(Nat.le_of_ble_eq_true rfl), (Nat.le_of_ble_eq_true rfl)⟩) (fun r2 hr2 => ?_)
  replace hr2 := hr2.symm; subst hr2
  refine lv_astore (lv' := [(5, .ref c0), (4, .ref c0), (0, .ref h0), (1, .int 0), (2, .int 0), (3, .int 0)]) hx hb d_LC_isSame_12 hl (by decide) rfl (fun ls hl => ?_)
  refine lv_iload_n hx hb d_LC_isSame_14 rfl (lv_at hl 5 rfl) ?_
  refine va_csv (W.runS (As := [.int 0]) (rest := []) ⟨hx, hb, hml, hown, hts⟩ (c_refuseBadParts l ) (cwS 1 hts g_LC_isSame_15 rfl rfl rfl (by decide +kernel) ⟨Nat.le_of_ble_eq_true rfl, Nat.le_of_ble_eq_true rfl⟩) ⟨fun a U g mk z => z, fun U hU hW => ⟨rfl, trivial⟩⟩ rfl rfl hl.1 rfl (lv_room (Nat.le_of_ble_eq_true rfl)) d_LC_isSame_15 ⟨(Nat.le_of_ble_eq_true rfl), (Nat.le_of_ble_eq_true rfl)⟩) (fun hr3 => ?_)
  refine lv_aload_n hx hb d_LC_isSame_18 rfl (lv_at hl 2 rfl) ?_
  refine va_get (D := (dC, dI)) (ci := 0) (v := .ref qm) (C := R_LC) (T := T_LC) (N := 17) hx hb hts in_LC_isSame_LC hown hK hP 0 rfl rfl 0 (by decide) (hts (.fieldLink "Leastcode" 10 "Leastcode" "machine" "LLeastcode$Machine;") (List.mem_of_getElem? (i := 31) rfl)) (fun _ h9 => h9) rfl d_LC_isSame_19 ?_
  refine lv_aload hx hb d_LC_isSame_22 (lv_at hl 1 rfl) ?_
  refine lv_aload hx hb d_LC_isSame_24 (lv_at hl 0 rfl) ?_
  refine lv_iload_n hx hb d_LC_isSame_26 rfl (lv_at hl 5 rfl) ?_
  have hPc : va_P (dC, dI) classes [(qm, .inr (1, [.ref qn, .ref qa, .ref qb, .ref qc, .ref qd, .ref qe, .ref qf])), (qn, .inl (cA, 6016, .inl (f))), (c0, .inr (2, [.ref a0, .int n])), (a0, .inl (cC, 8, .inl (fa)))] _ := hP.sub (ws' := [(qm, .inr (1, [.ref qn, .ref qa, .ref qb, .ref qc, .ref qd, .ref qe, .ref qf])), (qn, .inl (cA, 6016, .inl (f))), (c0, .inr (2, [.ref a0, .int n])), (a0, .inl (cC, 8, .inl (fa)))]) [1, 2, 4, 5] rfl
  have hKc : va_K (dC, dI) classes [(cA, .int), (cC, .int)] s := hK.sub (tys' := [(cA, .int), (cC, .int)]) [0, 2] rfl
  refine vp_callSi (W.runV (As := [.ref c0, .ref c0, .int 0]) (rest := []) ⟨hx, hb, hml, hown, hts⟩ (c_areAlike l dC dI qm qn qa qb qc qd qe qf cA f c0 a0 n cC fa kk hnk hkk) (cwV 3 hts g_LC_isSame_27 rfl rfl rfl (by decide +kernel) ⟨Nat.le_of_ble_eq_true rfl, Nat.le_of_ble_eq_true rfl⟩) ⟨fun a U g mk z => by obtain ⟨z0, zP, zK⟩ := z; exact ⟨z0, zP, va_K.moved (u := U) (U := U.calling g mk a) (Vm.Alike.refl U.vm) zK⟩, va_recv hKc hPc (ci := 1) (q0 := 0) rfl rfl, fun U hU hW => ⟨rfl, by rw [hU]; exact hPc, va_K.moved hW.alike hKc⟩⟩ rfl rfl hl.1 rfl (lv_room (Nat.le_of_ble_eq_true rfl)) d_LC_isSame_27 ⟨(Nat.le_of_ble_eq_true rfl), (Nat.le_of_ble_eq_true rfl)⟩) (fun r4 hr4 => ?_)
  replace hr4 := hr4.symm; subst hr4
  exact W.zret hx hb hr rfl (fun t ht hW => ⟨_, rfl, rfl, ht⟩) (fun _ h => by cases h) d_LC_isSame_30
end
section
/-! Lists: any object into a row of objects; how far a heap has grown. -/
theorem ry_any {nm E : String} {a : Nat} {A : Nat → Prop} {s : State} {H : Heap} {locs : List Loc} (h : va_O nm a A s s.heap) (hS : va_S A s.heap H locs) (hca : va_Nw (.castable nm E) s) : va_Any E s H a := by
  obtain ⟨cell, h1, h2, h3⟩ := va_Orecv h hS
  obtain ⟨kC, hkC, -⟩ := Vm.findClass_spec h3
  exact ⟨cell, h1, h2, ⟨kC, hkC⟩, fun comp hq => vb_asgC hca comp _ hq h3⟩
/-- a cell that is none of the caller's own is new -/
theorem ry_grow {D : va_G} {cl : List vw_C} {own ws : va_W} {z : Nat} {A : Nat → Prop} {H : Heap} (hAe : va_A own z = A) (hP : va_P D cl ws H) (hD : va_D A ws) (k : Nat) {q : Nat} {e : va_E} (hk : ws[k]? = some (q, e)) (hn : ∀ x ∈ own, x.1 ≠ q) : z + 1 ≤ H.size := by
  have h1 : q < H.size := (hP k (q, e) hk).lt
  have h2 : A q := hD.2 k (q, e) hk
  rw [← hAe] at h2
  rcases h2 with ⟨j, x, hj⟩ | h2
  · exact absurd rfl (hn (q, x) (List.mem_of_getElem? hj))
  · omega
theorem ry_ne {A : Nat → Prop} {ws : va_W} (hD : va_D A ws) (i j : Nat) {p q : Nat × va_E} (hi : ws[i]? = some p) (hj : ws[j]? = some q) (h : i ≠ j) : p.1 ≠ q.1 := fun e => h (hD.1 i j p q hi hj e)

abbrev rm_ABC_init : Room := { frames := 1, cells := 0, slots := 0, locals := 12 }
abbrev b_ABC_init : ByteArray := prog_44_method_1_code
def y_ABC_init : MethodName := ⟨"java/util/AbstractCollection", "<init>", "()V"⟩
def w_ABC_init : List Cond := [.code ⟨"java/util/AbstractCollection", "<init>", "()V"⟩ prog_44_method_1_code 1 none, .methodLink "java/util/AbstractCollection" 1 ⟨"java/lang/Object", "<init>", "()V"⟩, .instanceMethod ⟨"java/lang/Object", "<init>", "()V"⟩, .code ⟨"java/lang/Object", "<init>", "()V"⟩ object_method_1_code 1 none]
theorem d_ABC_init_0 : decode b_ABC_init 0 = .ok (.aload_n 0, 1) := by decide +kernel
theorem d_ABC_init_1 : decode b_ABC_init 1 = .ok (.invokespecial 1, 3) := by decide +kernel
theorem d_ABC_init_4 : decode b_ABC_init 4 = .ok (.return_, 1) := by decide +kernel
set_option maxHeartbeats 4000000 in
set_option maxRecDepth 100000 in
theorem c_ABC_init (l : Launch) (h0 : Nat) : Met l y_ABC_init w_ABC_init rm_ABC_init (va_Pc [.ref h0] (fun U => True)) (va_Sv (fun _ => True)) 0 0 (fun _ => False) := by
  refine Met.ofW (cc := b_ABC_init) (maxL := 1) (ret := none) (by decide) rfl ?_
  intro p e s m args below meth c s₁ B hml hv
  obtain ⟨rfl, -⟩ := hv
  have hx := B.exec
  have hb := B.bytes
  have hr := B.returns
  have hts := atoms_spec (ws := w_ABC_init) B.pre
  have hown : s.vm.findClass "java/util/AbstractCollection" = some m.cls := findClass_of_methodNamed B.named
  have hlocks := B.notSynchronized
  have hin : meth.name = "<init>" := (name_of_methodNamed B.named B.method).1
  have hl := lv_entry ([.ref h0]) (n := 1) (Nat.le_of_ble_eq_true rfl)
  rw [lg_entry_eq]
  generalize (lg_sl ([.ref h0]) ++ List.replicate (1 - (lg_sl ([.ref h0])).length) Slot.unset).toArray = ls at hl ⊢
  have hl : lv_has ls 1 [(0, .ref h0)] := hl
  refine lv_aload_n hx hb d_ABC_init_0 rfl (lv_at hl 0 rfl) ?_
  refine W.objInit hx hb hown (hts (.methodLink "java/util/AbstractCollection" 1 ⟨"java/lang/Object", "<init>", "()V"⟩) (List.mem_of_getElem? (i := 1) rfl)) (hts (.instanceMethod ⟨"java/lang/Object", "<init>", "()V"⟩) (List.mem_of_getElem? (i := 2) rfl)) (hts (.code ⟨"java/lang/Object", "<init>", "()V"⟩ object_method_1_code 1 none) (List.mem_of_getElem? (i := 3) rfl)) rfl (by rw [hml]; exact hl.1) rfl d_ABC_init_1 (Nat.le_of_ble_eq_true rfl) (Nat.le_of_ble_eq_true rfl) ?_
  refine W.eq (g2 := F0 m 4 ls []) rfl ?_
  exact W.vret hx hb hr (fun t ht hW => ⟨rfl, trivial, ht⟩) (fun _ h => by cases h) d_ABC_init_4

abbrev rm_ABL_init : Room := { frames := 2, cells := 0, slots := 0, locals := 32 }
abbrev b_ABL_init : ByteArray := prog_45_method_1_code
def y_ABL_init : MethodName := ⟨"java/util/AbstractList", "<init>", "()V"⟩
def w_ABL_init : List Cond := [.code ⟨"java/util/AbstractList", "<init>", "()V"⟩ prog_45_method_1_code 1 none, .code ⟨"java/util/AbstractCollection", "<init>", "()V"⟩ prog_44_method_1_code 1 none, .methodLink "java/util/AbstractCollection" 1 ⟨"java/lang/Object", "<init>", "()V"⟩, .instanceMethod ⟨"java/lang/Object", "<init>", "()V"⟩, .code ⟨"java/lang/Object", "<init>", "()V"⟩ object_method_1_code 1 none, .initialized "java/util/AbstractCollection", .methodLink "java/util/AbstractList" 1 ⟨"java/util/AbstractCollection", "<init>", "()V"⟩, .instanceMethod ⟨"java/util/AbstractCollection", "<init>", "()V"⟩, .lays "java/util/ArrayList" "java/util/AbstractList" "modCount" "I", .lays "java/util/ArrayList" "java/util/ArrayList" "elementData" "[Ljava/lang/Object;", .lays "java/util/ArrayList" "java/util/ArrayList" "size" "I", .fieldLink "java/util/AbstractList" 7 "java/util/AbstractList" "modCount" "I"]
theorem d_ABL_init_0 : decode b_ABL_init 0 = .ok (.aload_n 0, 1) := by decide +kernel
theorem d_ABL_init_1 : decode b_ABL_init 1 = .ok (.invokespecial 1, 3) := by decide +kernel
theorem d_ABL_init_4 : decode b_ABL_init 4 = .ok (.aload_n 0, 1) := by decide +kernel
theorem d_ABL_init_5 : decode b_ABL_init 5 = .ok (.iconst 0, 1) := by decide +kernel
theorem d_ABL_init_6 : decode b_ABL_init 6 = .ok (.putfield 7, 3) := by decide +kernel
theorem d_ABL_init_9 : decode b_ABL_init 9 = .ok (.return_, 1) := by decide +kernel
theorem in_ABL_init_AL : ∀ v ∈ u_ws R_AL T_AL 3, v ∈ w_ABL_init := by decide +kernel
set_option maxRecDepth 20000 in
theorem g_ABL_init_1 : GoodIn w_ABL_init (w_ABC_init) := goodIn_r _ [1, 2, 3, 4] rfl (by decide +kernel)
set_option maxHeartbeats 4000000 in
set_option maxRecDepth 100000 in
theorem c_ABL_init (l : Launch) (dC : Nat → ClassId) (dI : Nat → Nat → Nat) (h0 : Nat) (sz : Nat) : Met l y_ABL_init w_ABL_init rm_ABL_init (va_Pc [.ref h0] (fun U => U.heap.size = sz ∧ va_P (dC, dI) classes [(h0, .inr (9, [.int 0, .null, .int 0]))] U.heap ∧ va_K (dC, dI) classes [] U ∧ va_D (fun _ => True) [(h0, .inr (9, [.int 0, .null, .int 0]))])) (va_Qv (fun (_ : Unit) => True) (fun _ t => va_P (dC, dI) classes [(h0, .inr (9, [.int 0, .null, .int 0]))] t.heap ∧ va_K (dC, dI) classes [] t ∧ va_D (va_A [(h0, .inr (9, [.int 0, .null, .int 0]))] sz) [(h0, .inr (9, [.int 0, .null, .int 0]))]) (va_A [(h0, .inr (9, [.int 0, .null, .int 0]))] sz)) 0 0 (va_A [(h0, .inr (9, [.int 0, .null, .int 0]))] sz) := by
  refine Met.ofW (cc := b_ABL_init) (maxL := 1) (ret := none) (by decide) rfl ?_
  intro p e s m args below meth c s₁ B hml hv
  obtain ⟨rfl, hsz, hP, hK, hD0⟩ := hv
  have hx := B.exec
  have hb := B.bytes
  have hr := B.returns
  have hts := atoms_spec (ws := w_ABL_init) B.pre
  have hown : s.vm.findClass "java/util/AbstractList" = some m.cls := findClass_of_methodNamed B.named
  have hlocks := B.notSynchronized
  have hin : meth.name = "<init>" := (name_of_methodNamed B.named B.method).1
  subst hsz
  have hD := hD0.self (sz := s.heap.size)
  generalize hAe : va_A [(h0, .inr (9, [.int 0, .null, .int 0]))] s.heap.size = A at hD ⊢
  have hA : ∀ q : Nat, s.heap.size ≤ q → A q := fun q h => by rw [← hAe]; exact Or.inr h
  have hS : va_S A s.heap s.heap [] := va_S.rf
  have hP : va_P (dC, dI) classes [(h0, .inr (9, [.int 0, .null, .int 0]))] s.heap := hP
  have hl := lv_entry ([.ref h0]) (n := 1) (Nat.le_of_ble_eq_true rfl)
  rw [lg_entry_eq]
  generalize (lg_sl ([.ref h0]) ++ List.replicate (1 - (lg_sl ([.ref h0])).length) Slot.unset).toArray = ls at hl ⊢
  have hl : lv_has ls 1 [(0, .ref h0)] := hl
  refine lv_aload_n hx hb d_ABL_init_0 rfl (lv_at hl 0 rfl) ?_
  refine va_csv (W.runI (As := []) (rest := []) ⟨hx, hb, hml, hown, hts⟩ (c_ABC_init l h0) (cwI 0 hts g_ABL_init_1 rfl rfl rfl (hts (.initialized "java/util/AbstractCollection") (List.mem_of_getElem? (i := 5) rfl)) (hts (.methodLink "java/util/AbstractList" 1 ⟨"java/util/AbstractCollection", "<init>", "()V"⟩) (List.mem_of_getElem? (i := 6) rfl)) (hts (.instanceMethod ⟨"java/util/AbstractCollection", "<init>", "()V"⟩) (List.mem_of_getElem? (i := 7) rfl)) rfl (by decide +kernel) ⟨Nat.le_of_ble_eq_true rfl, Nat.le_of_ble_eq_true rfl⟩) ⟨fun a U g mk z => z, fun U hU hW => ⟨rfl, trivial⟩⟩ rfl rfl hl.1 rfl (lv_room (Nat.le_of_ble_eq_true rfl)) d_ABL_init_1 ⟨(Nat.le_of_ble_eq_true rfl), (Nat.le_of_ble_eq_true rfl)⟩) (fun hr1 => ?_)
  refine lv_aload_n hx hb d_ABL_init_4 rfl (lv_at hl 0 rfl) ?_
  refine lv_iconst (v := 0) hx hb d_ABL_init_5 (by decide) ?_
  refine va_put (D := (dC, dI)) (ci := 9) (v := .int 0) (ty := .int) (C := R_AL) (T := T_AL) (N := 3) hx hb hts in_ABL_init_AL t_AL t_AL_ok n_AL hown hK hP hD hS 0 rfl rfl 0 (by decide) (hts (.fieldLink "java/util/AbstractList" 7 "java/util/AbstractList" "modCount" "I") (List.mem_of_getElem? (i := 11) rfl)) (fun _ h9 => h9) rfl (by decide +kernel) rfl rfl (Nat.le_of_ble_eq_true rfl) d_ABL_init_6 (fun H locs hP hD hS => ?_)
  have hP : va_P (dC, dI) classes [(h0, .inr (9, [.int 0, .null, .int 0]))] H := hP
  have hD : va_D A [(h0, .inr (9, [.int 0, .null, .int 0]))] := hD
  have hP9 : va_P (dC, dI) classes [(h0, .inr (9, [.int 0, .null, .int 0]))] H := hP.sub (ws' := [(h0, .inr (9, [.int 0, .null, .int 0]))]) [0] rfl
  have hD9 := hD.sub (ws' := [(h0, .inr (9, [.int 0, .null, .int 0]))]) [0] (by decide) rfl
  have hK9 := hK.sub (tys' := []) [] rfl
  refine W.widen (k := 0) (n := 0) (by omega) (by omega) ?_
  exact W.vret hx hb hr (fun t ht hW => ⟨⟨(), rfl, trivial, ⟨by rw [ht]; exact hP9, va_K.moved hW.alike hK9, hD9⟩⟩, hS.F ht⟩) hS.2.2 d_ABL_init_9

abbrev rm_AL_init : Room := { frames := 3, cells := 0, slots := 0, locals := 52 }
abbrev b_AL_init : ByteArray := prog_50_method_2_code
def y_AL_init : MethodName := ⟨"java/util/ArrayList", "<init>", "()V"⟩
def w_AL_init : List Cond := [.code ⟨"java/util/ArrayList", "<init>", "()V"⟩ prog_50_method_2_code 1 none, .code ⟨"java/util/AbstractList", "<init>", "()V"⟩ prog_45_method_1_code 1 none, .code ⟨"java/util/AbstractCollection", "<init>", "()V"⟩ prog_44_method_1_code 1 none, .methodLink "java/util/AbstractCollection" 1 ⟨"java/lang/Object", "<init>", "()V"⟩, .instanceMethod ⟨"java/lang/Object", "<init>", "()V"⟩, .code ⟨"java/lang/Object", "<init>", "()V"⟩ object_method_1_code 1 none, .initialized "java/util/AbstractCollection", .methodLink "java/util/AbstractList" 1 ⟨"java/util/AbstractCollection", "<init>", "()V"⟩, .instanceMethod ⟨"java/util/AbstractCollection", "<init>", "()V"⟩, .lays "java/util/ArrayList" "java/util/AbstractList" "modCount" "I", .lays "java/util/ArrayList" "java/util/ArrayList" "elementData" "[Ljava/lang/Object;", .lays "java/util/ArrayList" "java/util/ArrayList" "size" "I", .fieldLink "java/util/AbstractList" 7 "java/util/AbstractList" "modCount" "I", .initialized "java/util/AbstractList", .methodLink "java/util/ArrayList" 1 ⟨"java/util/AbstractList", "<init>", "()V"⟩, .instanceMethod ⟨"java/util/AbstractList", "<init>", "()V"⟩, .fieldLink "java/util/ArrayList" 39 "java/util/ArrayList" "DEFAULTCAPACITY_EMPTY_ELEMENTDATA" "[Ljava/lang/Object;", .fieldLink "java/util/ArrayList" 9 "java/util/ArrayList" "elementData" "[Ljava/lang/Object;"]
theorem d_AL_init_0 : decode b_AL_init 0 = .ok (.aload_n 0, 1) := by decide +kernel
theorem d_AL_init_1 : decode b_AL_init 1 = .ok (.invokespecial 1, 3) := by decide +kernel
theorem d_AL_init_4 : decode b_AL_init 4 = .ok (.aload_n 0, 1) := by decide +kernel
theorem d_AL_init_5 : decode b_AL_init 5 = .ok (.getstatic 39, 3) := by decide +kernel
theorem d_AL_init_8 : decode b_AL_init 8 = .ok (.putfield 9, 3) := by decide +kernel
theorem d_AL_init_11 : decode b_AL_init 11 = .ok (.return_, 1) := by decide +kernel
theorem in_AL_init_AL : ∀ v ∈ u_ws R_AL T_AL 3, v ∈ w_AL_init := by decide +kernel
set_option maxRecDepth 20000 in
theorem g_AL_init_1 : GoodIn w_AL_init (w_ABL_init) := goodIn_r _ [1, 2, 3, 4, 5, 6, 7, 8, 9, 10, 11, 12] rfl (by decide +kernel)
set_option maxHeartbeats 4000000 in
set_option maxRecDepth 100000 in
theorem c_AL_init (l : Launch) (dC : Nat → ClassId) (dI : Nat → Nat → Nat) (de : Nat) (h0 : Nat) (sz : Nat) : Met l y_AL_init w_AL_init rm_AL_init (va_Pc [.ref h0] (fun U => U.heap.size = sz ∧ va_P (dC, dI) classes [(h0, .inr (9, [.int 0, .null, .int 0]))] U.heap ∧ va_K (dC, dI) classes [] U ∧ va_D (fun _ => True) [(h0, .inr (9, [.int 0, .null, .int 0]))] ∧ va_Z "java/util/ArrayList" "DEFAULTCAPACITY_EMPTY_ELEMENTDATA" "[Ljava/lang/Object;" (.ref de) (va_A [(h0, .inr (9, [.int 0, .null, .int 0]))] sz) U U.heap)) (va_Qv (fun (_ : Unit) => True) (fun _ t => va_P (dC, dI) classes [(h0, .inr (9, [.int 0, .ref de, .int 0]))] t.heap ∧ va_K (dC, dI) classes [] t ∧ va_D (va_A [(h0, .inr (9, [.int 0, .null, .int 0]))] sz) [(h0, .inr (9, [.int 0, .ref de, .int 0]))]) (va_A [(h0, .inr (9, [.int 0, .null, .int 0]))] sz)) 0 0 (va_A [(h0, .inr (9, [.int 0, .null, .int 0]))] sz) := by
  refine Met.ofW (cc := b_AL_init) (maxL := 1) (ret := none) (by decide) rfl ?_
  intro p e s m args below meth c s₁ B hml hv
  obtain ⟨rfl, hsz, hP, hK, hD0, hE0⟩ := hv
  have hx := B.exec
  have hb := B.bytes
  have hr := B.returns
  have hts := atoms_spec (ws := w_AL_init) B.pre
  have hown : s.vm.findClass "java/util/ArrayList" = some m.cls := findClass_of_methodNamed B.named
  have hlocks := B.notSynchronized
  have hin : meth.name = "<init>" := (name_of_methodNamed B.named B.method).1
  subst hsz
  have hD := hD0.self (sz := s.heap.size)
  generalize hAe : va_A [(h0, .inr (9, [.int 0, .null, .int 0]))] s.heap.size = A at hD hE0 ⊢
  have hA : ∀ q : Nat, s.heap.size ≤ q → A q := fun q h => by rw [← hAe]; exact Or.inr h
  have hS : va_S A s.heap s.heap [] := va_S.rf
  have hP : va_P (dC, dI) classes [(h0, .inr (9, [.int 0, .null, .int 0]))] s.heap := hP
  have hl := lv_entry ([.ref h0]) (n := 1) (Nat.le_of_ble_eq_true rfl)
  rw [lg_entry_eq]
  generalize (lg_sl ([.ref h0]) ++ List.replicate (1 - (lg_sl ([.ref h0])).length) Slot.unset).toArray = ls at hl ⊢
  have hl : lv_has ls 1 [(0, .ref h0)] := hl
  refine lv_aload_n hx hb d_AL_init_0 rfl (lv_at hl 0 rfl) ?_
  have hPc : va_P (dC, dI) classes [(h0, .inr (9, [.int 0, .null, .int 0]))] _ := hP.sub (ws' := [(h0, .inr (9, [.int 0, .null, .int 0]))]) [0] rfl
  have hKc : va_K (dC, dI) classes [] s := hK.sub (tys' := []) [] rfl
  have hDc : va_D _ [(h0, .inr (9, [.int 0, .null, .int 0]))] := hD.sub (ws' := [(h0, .inr (9, [.int 0, .null, .int 0]))]) [0] (by decide) rfl
  have hFc := va_free (wc := [(h0, .inr (9, [.int 0, .null, .int 0]))]) hD hS hA [0] rfl
  refine va_callv (va_runI (As := []) (rest := []) ⟨hx, hb, hml, hown, hts⟩ (c_ABL_init l dC dI h0 s.heap.size) (cwI 0 hts g_AL_init_1 rfl rfl rfl (hts (.initialized "java/util/AbstractList") (List.mem_of_getElem? (i := 13) rfl)) (hts (.methodLink "java/util/ArrayList" 1 ⟨"java/util/AbstractList", "<init>", "()V"⟩) (List.mem_of_getElem? (i := 14) rfl)) (hts (.instanceMethod ⟨"java/util/AbstractList", "<init>", "()V"⟩) (List.mem_of_getElem? (i := 15) rfl)) rfl (by decide +kernel) ⟨Nat.le_of_ble_eq_true rfl, Nat.le_of_ble_eq_true rfl⟩) ⟨fun a U g mk z => by obtain ⟨z0, z1, zP, zK, zD⟩ := z; exact ⟨z0, z1, zP, va_K.moved (u := U) (U := U.calling g mk a) (Vm.Alike.refl U.vm) zK, zD⟩, fun U hU hW => ⟨rfl, by rw [hU], by rw [hU]; exact hPc, va_K.moved hW.alike hKc, hDc.weaken (fun _ _ _ _ => trivial)⟩⟩ rfl rfl hl.1 rfl (lv_room (Nat.le_of_ble_eq_true rfl)) d_AL_init_1 ⟨(Nat.le_of_ble_eq_true rfl), (Nat.le_of_ble_eq_true rfl)⟩) hS (fun q _ h => hFc q h) hFc (fun u t H1 locs ht hvm hr1 hB hz1 hk1 hS => ?_)
  obtain ⟨hP1, hK1, hD1⟩ := hB
  rw [ht] at hP1
  have hK1 := va_K.moved hvm.symm hK1
  obtain ⟨hP, hD⟩ := va_join (wr := []) (w1 := [(h0, .inr (9, [.int 0, .null, .int 0]))]) hP hD [0] [] rfl rfl (by decide) (by decide) hk1 hFc hP1 hD1
  clear hPc hDc hKc hFc hP1 hD1 hK1 hk1
  generalize H1 = H at hP hS ⊢
  have hP : va_P (dC, dI) classes [(h0, .inr (9, [.int 0, .null, .int 0]))] H := hP
  have hD : va_D A [(h0, .inr (9, [.int 0, .null, .int 0]))] := hD
  refine W.widen (k := 0) (n := 0) (by omega) (by omega) ?_
  refine lv_aload_n hx hb d_AL_init_4 rfl (lv_at hl 0 rfl) ?_
  refine va_gets (v := .ref de) hx hb hE0 hS hown (hts (.fieldLink "java/util/ArrayList" 39 "java/util/ArrayList" "DEFAULTCAPACITY_EMPTY_ELEMENTDATA" "[Ljava/lang/Object;") (List.mem_of_getElem? (i := 16) rfl)) (fun _ h9 => h9) d_AL_init_5 ?_
  refine va_put (D := (dC, dI)) (ci := 9) (v := .ref de) (ty := .array (.object "java/lang/Object")) (C := R_AL) (T := T_AL) (N := 3) hx hb hts in_AL_init_AL t_AL t_AL_ok n_AL hown hK hP hD hS 0 rfl rfl 1 (by decide) (hts (.fieldLink "java/util/ArrayList" 9 "java/util/ArrayList" "elementData" "[Ljava/lang/Object;") (List.mem_of_getElem? (i := 17) rfl)) (fun _ h9 => h9) rfl (by decide +kernel) rfl rfl (Nat.le_of_ble_eq_true rfl) d_AL_init_8 (fun H locs hP hD hS => ?_)
  have hP : va_P (dC, dI) classes [(h0, .inr (9, [.int 0, .ref de, .int 0]))] H := hP
  have hD : va_D A [(h0, .inr (9, [.int 0, .ref de, .int 0]))] := hD
  have hP9 : va_P (dC, dI) classes [(h0, .inr (9, [.int 0, .ref de, .int 0]))] H := hP.sub (ws' := [(h0, .inr (9, [.int 0, .ref de, .int 0]))]) [0] rfl
  have hD9 := hD.sub (ws' := [(h0, .inr (9, [.int 0, .ref de, .int 0]))]) [0] (by decide) rfl
  have hK9 := hK.sub (tys' := []) [] rfl
  refine W.widen (k := 0) (n := 0) (by omega) (by omega) ?_
  exact W.vret hx hb hr (fun t ht hW => ⟨⟨(), rfl, trivial, ⟨by rw [ht]; exact hP9, va_K.moved hW.alike hK9, hD9⟩⟩, hS.F ht⟩) hS.2.2 d_AL_init_11

abbrev rm_AL_size : Room := { frames := 0, cells := 0, slots := 0, locals := 0 }
abbrev b_AL_size : ByteArray := prog_50_method_8_code
def y_AL_size : MethodName := ⟨"java/util/ArrayList", "size", "()I"⟩
def w_AL_size : List Cond := [.code ⟨"java/util/ArrayList", "size", "()I"⟩ prog_50_method_8_code 1 (some .int), .lays "java/util/ArrayList" "java/util/AbstractList" "modCount" "I", .lays "java/util/ArrayList" "java/util/ArrayList" "elementData" "[Ljava/lang/Object;", .lays "java/util/ArrayList" "java/util/ArrayList" "size" "I", .fieldLink "java/util/ArrayList" 48 "java/util/ArrayList" "size" "I"]
theorem d_AL_size_0 : decode b_AL_size 0 = .ok (.aload_n 0, 1) := by decide +kernel
theorem d_AL_size_1 : decode b_AL_size 1 = .ok (.getfield 48, 3) := by decide +kernel
theorem d_AL_size_4 : decode b_AL_size 4 = .ok (.ireturn, 1) := by decide +kernel
theorem in_AL_size_AL : ∀ v ∈ u_ws R_AL T_AL 3, v ∈ w_AL_size := by decide +kernel
set_option maxHeartbeats 4000000 in
set_option maxRecDepth 100000 in
theorem c_AL_size (l : Launch) (dC : Nat → ClassId) (dI : Nat → Nat → Nat) (h0 : Nat) (md : Int32) (ed : Nat) (n : Int32) : Met l y_AL_size w_AL_size rm_AL_size (va_Pc [.ref h0] (fun U => va_P (dC, dI) classes [(h0, .inr (9, [.int md, .ref ed, .int n]))] U.heap ∧ va_K (dC, dI) classes [] U)) (vp_Si (fun r => r = n)) 0 0 (fun _ => False) := by
  refine Met.ofW (cc := b_AL_size) (maxL := 1) (ret := (some .int)) (by decide) rfl ?_
  intro p e s m args below meth c s₁ B hml hv
  obtain ⟨rfl, hP, hK⟩ := hv
  have hx := B.exec
  have hb := B.bytes
  have hr := B.returns
  have hts := atoms_spec (ws := w_AL_size) B.pre
  have hown : s.vm.findClass "java/util/ArrayList" = some m.cls := findClass_of_methodNamed B.named
  have hlocks := B.notSynchronized
  have hP : va_P (dC, dI) classes [(h0, .inr (9, [.int md, .ref ed, .int n]))] s.heap := hP
  have hl := lv_entry ([.ref h0]) (n := 1) (Nat.le_of_ble_eq_true rfl)
  rw [lg_entry_eq]
  generalize (lg_sl ([.ref h0]) ++ List.replicate (1 - (lg_sl ([.ref h0])).length) Slot.unset).toArray = ls at hl ⊢
  have hl : lv_has ls 1 [(0, .ref h0)] := hl
  refine lv_aload_n hx hb d_AL_size_0 rfl (lv_at hl 0 rfl) ?_
  refine va_get (D := (dC, dI)) (ci := 9) (v := .int n) (C := R_AL) (T := T_AL) (N := 3) hx hb hts in_AL_size_AL hown hK hP 0 rfl rfl 2 (by decide) (hts (.fieldLink "java/util/ArrayList" 48 "java/util/ArrayList" "size" "I") (List.mem_of_getElem? (i := 4) rfl)) (fun _ h9 => h9) rfl d_AL_size_1 ?_
  exact W.iret hx hb hr (fun t ht hW => ⟨_, rfl, rfl, ht⟩) (fun _ h => by cases h) d_AL_size_4

abbrev rm_AL_growI : Room := { frames := 1, cells := 1, slots := 10, locals := 14 }
abbrev b_AL_growI : ByteArray := prog_50_method_6_code
def y_AL_growI : MethodName := ⟨"java/util/ArrayList", "grow", "(I)[Ljava/lang/Object;"⟩
def w_AL_growI : List Cond := [.code ⟨"java/util/ArrayList", "grow", "(I)[Ljava/lang/Object;"⟩ prog_50_method_6_code 4 (some (.array (.object "java/lang/Object"))), .lays "java/util/ArrayList" "java/util/AbstractList" "modCount" "I", .lays "java/util/ArrayList" "java/util/ArrayList" "elementData" "[Ljava/lang/Object;", .lays "java/util/ArrayList" "java/util/ArrayList" "size" "I", .fieldLink "java/util/ArrayList" 9 "java/util/ArrayList" "elementData" "[Ljava/lang/Object;", .fieldLink "java/util/ArrayList" 39 "java/util/ArrayList" "DEFAULTCAPACITY_EMPTY_ELEMENTDATA" "[Ljava/lang/Object;", .methodLink "java/util/ArrayList" 79 ⟨"java/lang/Math", "max", "(II)I"⟩, .static ⟨"java/lang/Math", "max", "(II)I"⟩, .initialized "java/lang/Math", .code ⟨"java/lang/Math", "max", "(II)I"⟩ prog_31_method_65_code 2 (some .int), .classLink "java/util/ArrayList" 7 "java/lang/Object"]
theorem d_AL_growI_0 : decode b_AL_growI 0 = .ok (.aload_n 0, 1) := by decide +kernel
theorem d_AL_growI_1 : decode b_AL_growI 1 = .ok (.getfield 9, 3) := by decide +kernel
theorem d_AL_growI_4 : decode b_AL_growI 4 = .ok (.arraylength, 1) := by decide +kernel
theorem d_AL_growI_5 : decode b_AL_growI 5 = .ok (.istore_n 2, 1) := by decide +kernel
theorem d_AL_growI_6 : decode b_AL_growI 6 = .ok (.iload_n 2, 1) := by decide +kernel
theorem d_AL_growI_7 : decode b_AL_growI 7 = .ok (.ifCond .gt 13, 3) := by decide +kernel
theorem d_AL_growI_10 : decode b_AL_growI 10 = .ok (.aload_n 0, 1) := by decide +kernel
theorem d_AL_growI_11 : decode b_AL_growI 11 = .ok (.getfield 9, 3) := by decide +kernel
theorem d_AL_growI_14 : decode b_AL_growI 14 = .ok (.getstatic 39, 3) := by decide +kernel
theorem d_AL_growI_17 : decode b_AL_growI 17 = .ok (.if_acmp .eq 28, 3) := by decide +kernel
theorem d_AL_growI_45 : decode b_AL_growI 45 = .ok (.aload_n 0, 1) := by decide +kernel
theorem d_AL_growI_46 : decode b_AL_growI 46 = .ok (.bipush 10, 2) := by decide +kernel
theorem d_AL_growI_48 : decode b_AL_growI 48 = .ok (.iload_n 1, 1) := by decide +kernel
theorem d_AL_growI_49 : decode b_AL_growI 49 = .ok (.invokestatic 79, 3) := by decide +kernel
theorem d_AL_growI_52 : decode b_AL_growI 52 = .ok (.anewarray 7, 3) := by decide +kernel
theorem d_AL_growI_55 : decode b_AL_growI 55 = .ok (.dup_x1, 1) := by decide +kernel
theorem d_AL_growI_56 : decode b_AL_growI 56 = .ok (.putfield 9, 3) := by decide +kernel
theorem d_AL_growI_59 : decode b_AL_growI 59 = .ok (.areturn, 1) := by decide +kernel
theorem in_AL_growI_AL : ∀ v ∈ u_ws R_AL T_AL 3, v ∈ w_AL_growI := by decide +kernel
set_option maxHeartbeats 4000000 in
set_option maxRecDepth 100000 in
theorem c_AL_growI (l : Launch) (dC : Nat → ClassId) (dI : Nat → Nat → Nat) (de : Nat) (fde : Nat → Value) (h0 : Nat) (md : Int32) (sz : Nat) : Met l y_AL_growI w_AL_growI rm_AL_growI (va_Pc [.ref h0, .int 1] (fun U => U.heap.size = sz ∧ va_P (dC, dI) classes [(h0, .inr (9, [.int md, .ref de, .int 0]))] U.heap ∧ va_K (dC, dI) classes [] U ∧ va_D (fun _ => True) [(h0, .inr (9, [.int md, .ref de, .int 0]))] ∧ va_Z "java/util/ArrayList" "DEFAULTCAPACITY_EMPTY_ELEMENTDATA" "[Ljava/lang/Object;" (.ref de) (va_A [(h0, .inr (9, [.int md, .ref de, .int 0]))] sz) U U.heap ∧ va_T (.object "java/lang/Object") de 0 fde (va_A [(h0, .inr (9, [.int md, .ref de, .int 0]))] sz) U U.heap ∧ va_AO "java/lang/Object" U)) (va_Qr (fun (_ : Unit) => True) (fun _ rr t => ∃ cB : ClassId, va_P (dC, dI) classes [(h0, .inr (9, [.int md, .ref rr, .int 0])), (rr, .inl (cB, 10, .inr (.inr (.inr (.inr (fun _ => none))))))] t.heap ∧ va_K (dC, dI) classes [(cB, .object "java/lang/Object")] t ∧ va_D (va_A [(h0, .inr (9, [.int md, .ref de, .int 0]))] sz) [(h0, .inr (9, [.int md, .ref rr, .int 0])), (rr, .inl (cB, 10, .inr (.inr (.inr (.inr (fun _ => none))))))]) (va_A [(h0, .inr (9, [.int md, .ref de, .int 0]))] sz)) 1 10 (va_A [(h0, .inr (9, [.int md, .ref de, .int 0]))] sz) := by
  refine Met.ofW (cc := b_AL_growI) (maxL := 4) (ret := (some (.array (.object "java/lang/Object")))) (by decide) rfl ?_
  intro p e s m args below meth c s₁ B hml hv
  obtain ⟨rfl, hsz, hP, hK, hD0, hE0, hE1, hE2⟩ := hv
  have hx := B.exec
  have hb := B.bytes
  have hr := B.returns
  have hts := atoms_spec (ws := w_AL_growI) B.pre
  have hown : s.vm.findClass "java/util/ArrayList" = some m.cls := findClass_of_methodNamed B.named
  have hlocks := B.notSynchronized
  subst hsz
  have hD := hD0.self (sz := s.heap.size)
  generalize hAe : va_A [(h0, .inr (9, [.int md, .ref de, .int 0]))] s.heap.size = A at hD hE0 hE1 hE2 ⊢
  have hA : ∀ q : Nat, s.heap.size ≤ q → A q := fun q h => by rw [← hAe]; exact Or.inr h
  have hS : va_S A s.heap s.heap [] := va_S.rf
  have hP : va_P (dC, dI) classes [(h0, .inr (9, [.int md, .ref de, .int 0]))] s.heap := hP
  have hl := lv_entry ([.ref h0, .int 1]) (n := 4) (Nat.le_of_ble_eq_true rfl)
  rw [lg_entry_eq]
  generalize (lg_sl ([.ref h0, .int 1]) ++ List.replicate (4 - (lg_sl ([.ref h0, .int 1])).length) Slot.unset).toArray = ls at hl ⊢
  have hl : lv_has ls 4 [(0, .ref h0), (1, .int 1)] := hl
  refine lv_aload_n hx hb d_AL_growI_0 rfl (lv_at hl 0 rfl) ?_
  refine va_get (D := (dC, dI)) (ci := 9) (v := .ref de) (C := R_AL) (T := T_AL) (N := 3) hx hb hts in_AL_growI_AL hown hK hP 0 rfl rfl 1 (by decide) (hts (.fieldLink "java/util/ArrayList" 9 "java/util/ArrayList" "elementData" "[Ljava/lang/Object;") (List.mem_of_getElem? (i := 4) rfl)) (fun _ h9 => h9) rfl d_AL_growI_1 ?_
  refine va_tlen (v := 0) hx hb hE1 hS (by decide) d_AL_growI_4 ?_
  refine lv_istore_n (lv' := [(2, .int 0), (0, .ref h0), (1, .int 1)]) hx hb d_AL_growI_5 rfl hl (by decide) rfl (fun ls hl => ?_)
  refine lv_iload_n hx hb d_AL_growI_6 rfl (lv_at hl 0 rfl) ?_
  refine lv_if_gt (tgt := 20) hx hb d_AL_growI_7 (by decide) (fun c_7 => ?_) (fun c_7 => ?_)
  · exact absurd c_7 (by decide)
  · skip
    refine lv_aload_n hx hb d_AL_growI_10 rfl (lv_at hl 1 rfl) ?_
    refine va_get (D := (dC, dI)) (ci := 9) (v := .ref de) (C := R_AL) (T := T_AL) (N := 3) hx hb hts in_AL_growI_AL hown hK hP 0 rfl rfl 1 (by decide) (hts (.fieldLink "java/util/ArrayList" 9 "java/util/ArrayList" "elementData" "[Ljava/lang/Object;") (List.mem_of_getElem? (i := 4) rfl)) (fun _ h9 => h9) rfl d_AL_growI_11 ?_
    refine va_gets (v := .ref de) hx hb hE0 hS hown (hts (.fieldLink "java/util/ArrayList" 39 "java/util/ArrayList" "DEFAULTCAPACITY_EMPTY_ELEMENTDATA" "[Ljava/lang/Object;") (List.mem_of_getElem? (i := 5) rfl)) (fun _ h9 => h9) d_AL_growI_14 ?_
    refine lv_acmp_eq (rx := some de) (ry := some de) (tgt := 45) hx hb d_AL_growI_17 (by decide) (fun c_17 => ?_) (fun c_17 => ?_)
    · skip
      refine lv_aload_n hx hb d_AL_growI_45 rfl (lv_at hl 1 rfl) ?_
      refine lv_bipush (v := 10) hx hb d_AL_growI_46 (by decide) ?_
      refine lv_iload_n hx hb d_AL_growI_48 rfl (lv_at hl 2 rfl) ?_
      refine va_mmax hx hb (hml.trans hl.1.symm) hown (hts (.methodLink "java/util/ArrayList" 79 ⟨"java/lang/Math", "max", "(II)I"⟩) (List.mem_of_getElem? (i := 6) rfl)) (hts (.static ⟨"java/lang/Math", "max", "(II)I"⟩) (List.mem_of_getElem? (i := 7) rfl)) (hts (.initialized "java/lang/Math") (List.mem_of_getElem? (i := 8) rfl)) (hts (.code ⟨"java/lang/Math", "max", "(II)I"⟩ prog_31_method_65_code 2 (some .int)) (List.mem_of_getElem? (i := 9) rfl)) (Nat.le_of_ble_eq_true rfl) (Nat.le_of_ble_eq_true rfl) (Nat.le_of_ble_eq_true rfl) (Nat.le_of_ble_eq_true rfl) d_AL_growI_49 ?_
      refine lv_topi (fun x1 ex1 => ?_)
      obtain rfl : 10 = x1 := Eq.symm (by rw [ex1]; decide)
      refine va_newq (D := (dC, dI)) (N' := 10) hx hb hown (hts (.classLink "java/util/ArrayList" 7 "java/lang/Object") (List.mem_of_getElem? (i := 10) rfl)) hE2 hK hP hD hS hA (by decide) (by decide) (Nat.le_of_ble_eq_true rfl) (Nat.le_of_ble_eq_true rfl) (Nat.le_of_ble_eq_true rfl) d_AL_growI_52 (fun q2 cA3 H hK hP hD hS => ?_)
      have hP : va_P (dC, dI) classes [(h0, .inr (9, [.int md, .ref de, .int 0])), (q2, .inl (cA3, 10, .inr (.inr (.inr (.inr (fun _ => none))))))] H := hP
      have hK : va_K (dC, dI) classes [(cA3, .object "java/lang/Object")] s := hK
      have hD : va_D A [(h0, .inr (9, [.int md, .ref de, .int 0])), (q2, .inl (cA3, 10, .inr (.inr (.inr (.inr (fun _ => none))))))] := hD
      refine W.widen (k := 1) (n := 10) (by omega) (by omega) ?_
      refine lv_dup_x1 hx hb d_AL_growI_55 rfl rfl ?_
      refine va_put (D := (dC, dI)) (ci := 9) (v := .ref q2) (ty := .array (.object "java/lang/Object")) (C := R_AL) (T := T_AL) (N := 3) hx hb hts in_AL_growI_AL t_AL t_AL_ok n_AL hown hK hP hD hS 0 rfl rfl 1 (by decide) (hts (.fieldLink "java/util/ArrayList" 9 "java/util/ArrayList" "elementData" "[Ljava/lang/Object;") (List.mem_of_getElem? (i := 4) rfl)) (fun _ h9 => h9) rfl (by decide +kernel) rfl rfl (Nat.le_of_ble_eq_true rfl) d_AL_growI_56 (fun H locs hP hD hS => ?_)
      have hP : va_P (dC, dI) classes [(h0, .inr (9, [.int md, .ref q2, .int 0])), (q2, .inl (cA3, 10, .inr (.inr (.inr (.inr (fun _ => none))))))] H := hP
      have hD : va_D A [(h0, .inr (9, [.int md, .ref q2, .int 0])), (q2, .inl (cA3, 10, .inr (.inr (.inr (.inr (fun _ => none))))))] := hD
      have hP9 : va_P (dC, dI) classes [(h0, .inr (9, [.int md, .ref q2, .int 0])), (q2, .inl (cA3, 10, .inr (.inr (.inr (.inr (fun _ => none))))))] H := hP.sub (ws' := [(h0, .inr (9, [.int md, .ref q2, .int 0])), (q2, .inl (cA3, 10, .inr (.inr (.inr (.inr (fun _ => none))))))]) [0, 1] rfl
      have hD9 := hD.sub (ws' := [(h0, .inr (9, [.int md, .ref q2, .int 0])), (q2, .inl (cA3, 10, .inr (.inr (.inr (.inr (fun _ => none))))))]) [0, 1] (by decide) rfl
      have hK9 := hK.sub (tys' := [(cA3, .object "java/lang/Object")]) [0] rfl
      refine W.widen (k := 1) (n := 10) (by omega) (by omega) ?_
      exact W.aret hx hb hr (Or.inr ⟨_, rfl⟩) (Or.inr ⟨_, rfl⟩) (fun t ht hW => ⟨⟨(), _, rfl, trivial, ⟨cA3, ⟨by rw [ht]; exact hP9, va_K.moved hW.alike hK9, hD9⟩⟩⟩, hS.F ht⟩) hS.2.2 d_AL_growI_59
    · exact absurd rfl c_17

abbrev rm_AL_grow : Room := { frames := 2, cells := 1, slots := 10, locals := 37 }
abbrev b_AL_grow : ByteArray := prog_50_method_7_code
def y_AL_grow : MethodName := ⟨"java/util/ArrayList", "grow", "()[Ljava/lang/Object;"⟩
def w_AL_grow : List Cond := [.code ⟨"java/util/ArrayList", "grow", "()[Ljava/lang/Object;"⟩ prog_50_method_7_code 1 (some (.array (.object "java/lang/Object"))), .lays "java/util/ArrayList" "java/util/AbstractList" "modCount" "I", .lays "java/util/ArrayList" "java/util/ArrayList" "elementData" "[Ljava/lang/Object;", .lays "java/util/ArrayList" "java/util/ArrayList" "size" "I", .fieldLink "java/util/ArrayList" 48 "java/util/ArrayList" "size" "I", .methodLink "java/util/ArrayList" 69 ⟨"java/util/ArrayList", "grow", "(I)[Ljava/lang/Object;"⟩, .instanceMethod ⟨"java/util/ArrayList", "grow", "(I)[Ljava/lang/Object;"⟩, .selects "java/util/ArrayList" ⟨"java/util/ArrayList", "grow", "(I)[Ljava/lang/Object;"⟩ ⟨"java/util/ArrayList", "grow", "(I)[Ljava/lang/Object;"⟩, .initialized "java/util/ArrayList", .code ⟨"java/util/ArrayList", "grow", "(I)[Ljava/lang/Object;"⟩ prog_50_method_6_code 4 (some (.array (.object "java/lang/Object"))), .fieldLink "java/util/ArrayList" 9 "java/util/ArrayList" "elementData" "[Ljava/lang/Object;", .fieldLink "java/util/ArrayList" 39 "java/util/ArrayList" "DEFAULTCAPACITY_EMPTY_ELEMENTDATA" "[Ljava/lang/Object;", .methodLink "java/util/ArrayList" 79 ⟨"java/lang/Math", "max", "(II)I"⟩, .static ⟨"java/lang/Math", "max", "(II)I"⟩, .initialized "java/lang/Math", .code ⟨"java/lang/Math", "max", "(II)I"⟩ prog_31_method_65_code 2 (some .int), .classLink "java/util/ArrayList" 7 "java/lang/Object"]
theorem d_AL_grow_0 : decode b_AL_grow 0 = .ok (.aload_n 0, 1) := by decide +kernel
theorem d_AL_grow_1 : decode b_AL_grow 1 = .ok (.aload_n 0, 1) := by decide +kernel
theorem d_AL_grow_2 : decode b_AL_grow 2 = .ok (.getfield 48, 3) := by decide +kernel
theorem d_AL_grow_5 : decode b_AL_grow 5 = .ok (.iconst 1, 1) := by decide +kernel
theorem d_AL_grow_6 : decode b_AL_grow 6 = .ok (.iadd, 1) := by decide +kernel
theorem d_AL_grow_7 : decode b_AL_grow 7 = .ok (.invokevirtual 69, 3) := by decide +kernel
theorem d_AL_grow_10 : decode b_AL_grow 10 = .ok (.areturn, 1) := by decide +kernel
theorem in_AL_grow_AL : ∀ v ∈ u_ws R_AL T_AL 3, v ∈ w_AL_grow := by decide +kernel
set_option maxRecDepth 20000 in
theorem g_AL_grow_7 : GoodIn w_AL_grow (wsV "java/util/ArrayList" 69 "java/util/ArrayList" ⟨"java/util/ArrayList", "grow", "(I)[Ljava/lang/Object;"⟩ w_AL_growI) := goodIn_r _ [5, 6, 7, 8, 9, 1, 2, 3, 10, 11, 12, 13, 14, 15, 16] rfl (by decide +kernel)
set_option maxHeartbeats 4000000 in
set_option maxRecDepth 100000 in
theorem c_AL_grow (l : Launch) (dC : Nat → ClassId) (dI : Nat → Nat → Nat) (de : Nat) (fde : Nat → Value) (h0 : Nat) (md : Int32) (sz : Nat) : Met l y_AL_grow w_AL_grow rm_AL_grow (va_Pc [.ref h0] (fun U => U.heap.size = sz ∧ va_P (dC, dI) classes [(h0, .inr (9, [.int md, .ref de, .int 0]))] U.heap ∧ va_K (dC, dI) classes [] U ∧ va_D (fun _ => True) [(h0, .inr (9, [.int md, .ref de, .int 0]))] ∧ va_Z "java/util/ArrayList" "DEFAULTCAPACITY_EMPTY_ELEMENTDATA" "[Ljava/lang/Object;" (.ref de) (va_A [(h0, .inr (9, [.int md, .ref de, .int 0]))] sz) U U.heap ∧ va_T (.object "java/lang/Object") de 0 fde (va_A [(h0, .inr (9, [.int md, .ref de, .int 0]))] sz) U U.heap ∧ va_AO "java/lang/Object" U)) (va_Qr (fun (_ : Unit) => True) (fun _ rr t => ∃ cB : ClassId, va_P (dC, dI) classes [(h0, .inr (9, [.int md, .ref rr, .int 0])), (rr, .inl (cB, 10, .inr (.inr (.inr (.inr (fun _ => none))))))] t.heap ∧ va_K (dC, dI) classes [(cB, .object "java/lang/Object")] t ∧ va_D (va_A [(h0, .inr (9, [.int md, .ref de, .int 0]))] sz) [(h0, .inr (9, [.int md, .ref rr, .int 0])), (rr, .inl (cB, 10, .inr (.inr (.inr (.inr (fun _ => none))))))]) (va_A [(h0, .inr (9, [.int md, .ref de, .int 0]))] sz)) 1 10 (va_A [(h0, .inr (9, [.int md, .ref de, .int 0]))] sz) := by
  refine Met.ofW (cc := b_AL_grow) (maxL := 1) (ret := (some (.array (.object "java/lang/Object")))) (by decide) rfl ?_
  intro p e s m args below meth c s₁ B hml hv
  obtain ⟨rfl, hsz, hP, hK, hD0, hE0, hE1, hE2⟩ := hv
  have hx := B.exec
  have hb := B.bytes
  have hr := B.returns
  have hts := atoms_spec (ws := w_AL_grow) B.pre
  have hown : s.vm.findClass "java/util/ArrayList" = some m.cls := findClass_of_methodNamed B.named
  have hlocks := B.notSynchronized
  subst hsz
  have hD := hD0.self (sz := s.heap.size)
  generalize hAe : va_A [(h0, .inr (9, [.int md, .ref de, .int 0]))] s.heap.size = A at hD hE0 hE1 hE2 ⊢
  have hA : ∀ q : Nat, s.heap.size ≤ q → A q := fun q h => by rw [← hAe]; exact Or.inr h
  have hS : va_S A s.heap s.heap [] := va_S.rf
  have hP : va_P (dC, dI) classes [(h0, .inr (9, [.int md, .ref de, .int 0]))] s.heap := hP
  have hl := lv_entry ([.ref h0]) (n := 1) (Nat.le_of_ble_eq_true rfl)
  rw [lg_entry_eq]
  generalize (lg_sl ([.ref h0]) ++ List.replicate (1 - (lg_sl ([.ref h0])).length) Slot.unset).toArray = ls at hl ⊢
  have hl : lv_has ls 1 [(0, .ref h0)] := hl
  refine lv_aload_n hx hb d_AL_grow_0 rfl (lv_at hl 0 rfl) ?_
  refine lv_aload_n hx hb d_AL_grow_1 rfl (lv_at hl 0 rfl) ?_
  refine va_get (D := (dC, dI)) (ci := 9) (v := .int 0) (C := R_AL) (T := T_AL) (N := 3) hx hb hts in_AL_grow_AL hown hK hP 0 rfl rfl 2 (by decide) (hts (.fieldLink "java/util/ArrayList" 48 "java/util/ArrayList" "size" "I") (List.mem_of_getElem? (i := 4) rfl)) (fun _ h9 => h9) rfl d_AL_grow_2 ?_
  refine lv_iconst (v := 1) hx hb d_AL_grow_5 (by decide) ?_
  refine lv_iadd hx hb d_AL_grow_6 ?_
  refine lv_topi (fun x1 ex1 => ?_)
  obtain rfl : 1 = x1 := Eq.symm (by rw [ex1]; decide)
  have hPc : va_P (dC, dI) classes [(h0, .inr (9, [.int md, .ref de, .int 0]))] _ := hP.sub (ws' := [(h0, .inr (9, [.int md, .ref de, .int 0]))]) [0] rfl
  have hKc : va_K (dC, dI) classes [] s := hK.sub (tys' := []) [] rfl
  have hDc : va_D _ [(h0, .inr (9, [.int md, .ref de, .int 0]))] := hD.sub (ws' := [(h0, .inr (9, [.int md, .ref de, .int 0]))]) [0] (by decide) rfl
  have hFc := va_free (wc := [(h0, .inr (9, [.int md, .ref de, .int 0]))]) hD hS hA [0] rfl
  refine va_callr (va_runV (As := [.int 1]) (rest := []) ⟨hx, hb, hml, hown, hts⟩ (c_AL_growI l dC dI de fde h0 md s.heap.size) (cwV 1 hts g_AL_grow_7 rfl rfl rfl (by decide +kernel) ⟨Nat.le_of_ble_eq_true rfl, Nat.le_of_ble_eq_true rfl⟩) ⟨fun a U g mk z => by obtain ⟨z0, z1, zP, zK, zD, zE0, zE1, zE2⟩ := z; exact ⟨z0, z1, zP, va_K.moved (u := U) (U := U.calling g mk a) (Vm.Alike.refl U.vm) zK, zD, zE0.moved (u := U) (U := U.calling g mk a) (Vm.Alike.refl U.vm), zE1.moved (u := U) (U := U.calling g mk a) (Vm.Alike.refl U.vm), va_AO.moved (u := U) (U := U.calling g mk a) (Vm.Alike.refl U.vm) zE2⟩, va_recv hKc hPc (ci := 9) (q0 := 0) rfl rfl, fun U hU hW => ⟨rfl, by rw [hU], by rw [hU]; exact hPc, va_K.moved hW.alike hKc, hDc.weaken (fun _ _ _ _ => trivial), by (try dsimp only); rw [hU]; exact ((hE0.kept (fun a h1 h2 => hS.2.1 a h1 h2)).narrow hFc).moved hW.alike, by (try dsimp only); rw [hU]; exact ((hE1.kept (fun a h1 h2 => hS.2.1 a h1 h2)).narrow hFc).moved hW.alike, va_AO.moved hW.alike hE2⟩⟩ rfl rfl hl.1 rfl (lv_room (Nat.le_of_ble_eq_true rfl)) d_AL_grow_7 ⟨(Nat.le_of_ble_eq_true rfl), (Nat.le_of_ble_eq_true rfl)⟩) hS (fun q _ h => hFc q h) hFc (fun u r2 t H1 locs ht hvm hr2 hB hz1 hk1 hS => ?_)
  obtain ⟨cB3, hP1, hK1, hD1⟩ := hB
  rw [ht] at hP1
  have hK1 := va_K.moved hvm.symm hK1
  obtain ⟨hP, hD⟩ := va_join (wr := []) (w1 := [(h0, .inr (9, [.int md, .ref r2, .int 0])), (r2, .inl (cB3, 10, .inr (.inr (.inr (.inr (fun _ => none))))))]) hP hD [0] [] rfl rfl (by decide) (by decide) hk1 hFc hP1 hD1
  have hK := hK.app (hK1.sub (tys' := [(cB3, .object "java/lang/Object")]) [0] rfl)
  have hK : va_K (dC, dI) classes [(cB3, .object "java/lang/Object")] s := hK
  clear hPc hDc hKc hFc hP1 hD1 hK1 hk1
  generalize H1 = H at hP hS ⊢
  have hP : va_P (dC, dI) classes [(h0, .inr (9, [.int md, .ref r2, .int 0])), (r2, .inl (cB3, 10, .inr (.inr (.inr (.inr (fun _ => none))))))] H := hP
  have hD : va_D A [(h0, .inr (9, [.int md, .ref r2, .int 0])), (r2, .inl (cB3, 10, .inr (.inr (.inr (.inr (fun _ => none))))))] := hD
  refine W.widen (k := 1) (n := 10) (by omega) (by omega) ?_
  have hP9 : va_P (dC, dI) classes [(h0, .inr (9, [.int md, .ref r2, .int 0])), (r2, .inl (cB3, 10, .inr (.inr (.inr (.inr (fun _ => none))))))] H := hP.sub (ws' := [(h0, .inr (9, [.int md, .ref r2, .int 0])), (r2, .inl (cB3, 10, .inr (.inr (.inr (.inr (fun _ => none))))))]) [0, 1] rfl
  have hD9 := hD.sub (ws' := [(h0, .inr (9, [.int md, .ref r2, .int 0])), (r2, .inl (cB3, 10, .inr (.inr (.inr (.inr (fun _ => none))))))]) [0, 1] (by decide) rfl
  have hK9 := hK.sub (tys' := [(cB3, .object "java/lang/Object")]) [0] rfl
  refine W.widen (k := 1) (n := 10) (by omega) (by omega) ?_
  exact W.aret hx hb hr (Or.inr ⟨_, rfl⟩) (Or.inr ⟨_, rfl⟩) (fun t ht hW => ⟨⟨(), _, rfl, trivial, ⟨cB3, ⟨by rw [ht]; exact hP9, va_K.moved hW.alike hK9, hD9⟩⟩⟩, hS.F ht⟩) hS.2.2 d_AL_grow_10

abbrev rm_AL_add3L : Room := { frames := 3, cells := 1, slots := 10, locals := 57 }
abbrev b_AL_add3L : ByteArray := prog_50_method_24_code
def y_AL_add3L : MethodName := ⟨"java/util/ArrayList", "add", "(Ljava/lang/Object;[Ljava/lang/Object;I)V"⟩
def w_AL_add3L : List Cond := [.code ⟨"java/util/ArrayList", "add", "(Ljava/lang/Object;[Ljava/lang/Object;I)V"⟩ prog_50_method_24_code 4 none, .methodLink "java/util/ArrayList" 129 ⟨"java/util/ArrayList", "grow", "()[Ljava/lang/Object;"⟩, .instanceMethod ⟨"java/util/ArrayList", "grow", "()[Ljava/lang/Object;"⟩, .selects "java/util/ArrayList" ⟨"java/util/ArrayList", "grow", "()[Ljava/lang/Object;"⟩ ⟨"java/util/ArrayList", "grow", "()[Ljava/lang/Object;"⟩, .initialized "java/util/ArrayList", .code ⟨"java/util/ArrayList", "grow", "()[Ljava/lang/Object;"⟩ prog_50_method_7_code 1 (some (.array (.object "java/lang/Object"))), .lays "java/util/ArrayList" "java/util/AbstractList" "modCount" "I", .lays "java/util/ArrayList" "java/util/ArrayList" "elementData" "[Ljava/lang/Object;", .lays "java/util/ArrayList" "java/util/ArrayList" "size" "I", .fieldLink "java/util/ArrayList" 48 "java/util/ArrayList" "size" "I", .methodLink "java/util/ArrayList" 69 ⟨"java/util/ArrayList", "grow", "(I)[Ljava/lang/Object;"⟩, .instanceMethod ⟨"java/util/ArrayList", "grow", "(I)[Ljava/lang/Object;"⟩, .selects "java/util/ArrayList" ⟨"java/util/ArrayList", "grow", "(I)[Ljava/lang/Object;"⟩ ⟨"java/util/ArrayList", "grow", "(I)[Ljava/lang/Object;"⟩, .code ⟨"java/util/ArrayList", "grow", "(I)[Ljava/lang/Object;"⟩ prog_50_method_6_code 4 (some (.array (.object "java/lang/Object"))), .fieldLink "java/util/ArrayList" 9 "java/util/ArrayList" "elementData" "[Ljava/lang/Object;", .fieldLink "java/util/ArrayList" 39 "java/util/ArrayList" "DEFAULTCAPACITY_EMPTY_ELEMENTDATA" "[Ljava/lang/Object;", .methodLink "java/util/ArrayList" 79 ⟨"java/lang/Math", "max", "(II)I"⟩, .static ⟨"java/lang/Math", "max", "(II)I"⟩, .initialized "java/lang/Math", .code ⟨"java/lang/Math", "max", "(II)I"⟩ prog_31_method_65_code 2 (some .int), .classLink "java/util/ArrayList" 7 "java/lang/Object"]
theorem d_AL_add3L_0 : decode b_AL_add3L 0 = .ok (.iload_n 3, 1) := by decide +kernel
theorem d_AL_add3L_1 : decode b_AL_add3L 1 = .ok (.aload_n 2, 1) := by decide +kernel
theorem d_AL_add3L_2 : decode b_AL_add3L 2 = .ok (.arraylength, 1) := by decide +kernel
theorem d_AL_add3L_3 : decode b_AL_add3L 3 = .ok (.if_icmp .ne 8, 3) := by decide +kernel
theorem d_AL_add3L_6 : decode b_AL_add3L 6 = .ok (.aload_n 0, 1) := by decide +kernel
theorem d_AL_add3L_7 : decode b_AL_add3L 7 = .ok (.invokevirtual 129, 3) := by decide +kernel
theorem d_AL_add3L_10 : decode b_AL_add3L 10 = .ok (.astore_n 2, 1) := by decide +kernel
theorem d_AL_add3L_11 : decode b_AL_add3L 11 = .ok (.aload_n 2, 1) := by decide +kernel
theorem d_AL_add3L_12 : decode b_AL_add3L 12 = .ok (.iload_n 3, 1) := by decide +kernel
theorem d_AL_add3L_13 : decode b_AL_add3L 13 = .ok (.aload_n 1, 1) := by decide +kernel
theorem d_AL_add3L_14 : decode b_AL_add3L 14 = .ok (.aastore, 1) := by decide +kernel
theorem d_AL_add3L_15 : decode b_AL_add3L 15 = .ok (.aload_n 0, 1) := by decide +kernel
theorem d_AL_add3L_16 : decode b_AL_add3L 16 = .ok (.iload_n 3, 1) := by decide +kernel
theorem d_AL_add3L_17 : decode b_AL_add3L 17 = .ok (.iconst 1, 1) := by decide +kernel
theorem d_AL_add3L_18 : decode b_AL_add3L 18 = .ok (.iadd, 1) := by decide +kernel
theorem d_AL_add3L_19 : decode b_AL_add3L 19 = .ok (.putfield 48, 3) := by decide +kernel
theorem d_AL_add3L_22 : decode b_AL_add3L 22 = .ok (.return_, 1) := by decide +kernel
theorem in_AL_add3L_AL : ∀ v ∈ u_ws R_AL T_AL 3, v ∈ w_AL_add3L := by decide +kernel
set_option maxRecDepth 20000 in
theorem g_AL_add3L_7 : GoodIn w_AL_add3L (wsV "java/util/ArrayList" 129 "java/util/ArrayList" ⟨"java/util/ArrayList", "grow", "()[Ljava/lang/Object;"⟩ w_AL_grow) := goodIn_r _ [1, 2, 3, 4, 5, 6, 7, 8, 9, 10, 11, 12, 4, 13, 14, 15, 16, 17, 18, 19, 20] rfl (by decide +kernel)
set_option maxHeartbeats 4000000 in
set_option maxRecDepth 100000 in
theorem c_AL_add3L (l : Launch) (dC : Nat → ClassId) (dI : Nat → Nat → Nat) (de : Nat) (fde : Nat → Value) (h0 : Nat) (md : Int32) (e0 : Nat) (me : Int32) (ede : Nat) (ne : Int32) (sz : Nat) : Met l y_AL_add3L w_AL_add3L rm_AL_add3L (va_Pc [.ref h0, .ref e0, .ref de, .int 0] (fun U => U.heap.size = sz ∧ va_P (dC, dI) classes [(h0, .inr (9, [.int md, .ref de, .int 0])), (e0, .inr (9, [.int me, .ref ede, .int ne]))] U.heap ∧ va_K (dC, dI) classes [] U ∧ va_D (fun _ => True) [(h0, .inr (9, [.int md, .ref de, .int 0])), (e0, .inr (9, [.int me, .ref ede, .int ne]))] ∧ va_Z "java/util/ArrayList" "DEFAULTCAPACITY_EMPTY_ELEMENTDATA" "[Ljava/lang/Object;" (.ref de) (va_A [(h0, .inr (9, [.int md, .ref de, .int 0])), (e0, .inr (9, [.int me, .ref ede, .int ne]))] sz) U U.heap ∧ va_T (.object "java/lang/Object") de 0 fde (va_A [(h0, .inr (9, [.int md, .ref de, .int 0])), (e0, .inr (9, [.int me, .ref ede, .int ne]))] sz) U U.heap ∧ va_AO "java/lang/Object" U ∧ va_Nw (.castable "java/util/ArrayList" "java/lang/Object") U)) (va_Qv (fun (_ : Unit) => True) (fun _ t => ∃ ed : Nat, ∃ cB : ClassId, ∃ f1 : Nat → Option Nat, va_P (dC, dI) classes [(h0, .inr (9, [.int md, .ref ed, .int 1])), (ed, .inl (cB, 10, .inr (.inr (.inr (.inr (f1)))))), (e0, .inr (9, [.int me, .ref ede, .int ne]))] t.heap ∧ va_K (dC, dI) classes [(cB, .object "java/lang/Object")] t ∧ va_D (va_A [(h0, .inr (9, [.int md, .ref de, .int 0])), (e0, .inr (9, [.int me, .ref ede, .int ne]))] sz) [(h0, .inr (9, [.int md, .ref ed, .int 1])), (ed, .inl (cB, 10, .inr (.inr (.inr (.inr (f1)))))), (e0, .inr (9, [.int me, .ref ede, .int ne]))] ∧ f1 0 = some e0) (va_A [(h0, .inr (9, [.int md, .ref de, .int 0])), (e0, .inr (9, [.int me, .ref ede, .int ne]))] sz)) 1 10 (va_A [(h0, .inr (9, [.int md, .ref de, .int 0])), (e0, .inr (9, [.int me, .ref ede, .int ne]))] sz) := by
  refine Met.ofW (cc := b_AL_add3L) (maxL := 4) (ret := none) (by decide) rfl ?_
  intro p e s m args below meth c s₁ B hml hv
  obtain ⟨rfl, hsz, hP, hK, hD0, hE0, hE1, hE2, hE3⟩ := hv
  have hx := B.exec
  have hb := B.bytes
  have hr := B.returns
  have hts := atoms_spec (ws := w_AL_add3L) B.pre
  have hown : s.vm.findClass "java/util/ArrayList" = some m.cls := findClass_of_methodNamed B.named
  have hlocks := B.notSynchronized
  subst hsz
  have hD := hD0.self (sz := s.heap.size)
  generalize hAe : va_A [(h0, .inr (9, [.int md, .ref de, .int 0])), (e0, .inr (9, [.int me, .ref ede, .int ne]))] s.heap.size = A at hD hE0 hE1 hE2 hE3 ⊢
  have hA : ∀ q : Nat, s.heap.size ≤ q → A q := fun q h => by rw [← hAe]; exact Or.inr h
  have hS : va_S A s.heap s.heap [] := va_S.rf
  have hP : va_P (dC, dI) classes [(h0, .inr (9, [.int md, .ref de, .int 0])), (e0, .inr (9, [.int me, .ref ede, .int ne]))] s.heap := hP
  have hl := lv_entry ([.ref h0, .ref e0, .ref de, .int 0]) (n := 4) (Nat.le_of_ble_eq_true rfl)
  rw [lg_entry_eq]
  generalize (lg_sl ([.ref h0, .ref e0, .ref de, .int 0]) ++ List.replicate (4 - (lg_sl ([.ref h0, .ref e0, .ref de, .int 0])).length) Slot.unset).toArray = ls at hl ⊢
  have hl : lv_has ls 4 [(0, .ref h0), (1, .ref e0), (2, .ref de), (3, .int 0)] := hl
  refine lv_iload_n hx hb d_AL_add3L_0 rfl (lv_at hl 3 rfl) ?_
  refine lv_aload_n hx hb d_AL_add3L_1 rfl (lv_at hl 2 rfl) ?_
  refine va_tlen (v := 0) hx hb hE1 hS (by decide) d_AL_add3L_2 ?_
  refine lv_icmp_ne (tgt := 11) hx hb d_AL_add3L_3 (by decide) (fun c_3 => ?_) (fun c_3 => ?_)
  · exact absurd c_3 (fun q => q rfl)
  · skip
    refine lv_aload_n hx hb d_AL_add3L_6 rfl (lv_at hl 0 rfl) ?_
    have hPc : va_P (dC, dI) classes [(h0, .inr (9, [.int md, .ref de, .int 0]))] _ := hP.sub (ws' := [(h0, .inr (9, [.int md, .ref de, .int 0]))]) [0] rfl
    have hKc : va_K (dC, dI) classes [] s := hK.sub (tys' := []) [] rfl
    have hDc : va_D _ [(h0, .inr (9, [.int md, .ref de, .int 0]))] := hD.sub (ws' := [(h0, .inr (9, [.int md, .ref de, .int 0]))]) [0] (by decide) rfl
    have hFc := va_free (wc := [(h0, .inr (9, [.int md, .ref de, .int 0]))]) hD hS hA [0] rfl
    refine va_callr (va_runV (As := []) (rest := []) ⟨hx, hb, hml, hown, hts⟩ (c_AL_grow l dC dI de fde h0 md s.heap.size) (cwV 0 hts g_AL_add3L_7 rfl rfl rfl (by decide +kernel) ⟨Nat.le_of_ble_eq_true rfl, Nat.le_of_ble_eq_true rfl⟩) ⟨fun a U g mk z => by obtain ⟨z0, z1, zP, zK, zD, zE0, zE1, zE2⟩ := z; exact ⟨z0, z1, zP, va_K.moved (u := U) (U := U.calling g mk a) (Vm.Alike.refl U.vm) zK, zD, zE0.moved (u := U) (U := U.calling g mk a) (Vm.Alike.refl U.vm), zE1.moved (u := U) (U := U.calling g mk a) (Vm.Alike.refl U.vm), va_AO.moved (u := U) (U := U.calling g mk a) (Vm.Alike.refl U.vm) zE2⟩, va_recv hKc hPc (ci := 9) (q0 := 0) rfl rfl, fun U hU hW => ⟨rfl, by rw [hU], by rw [hU]; exact hPc, va_K.moved hW.alike hKc, hDc.weaken (fun _ _ _ _ => trivial), by (try dsimp only); rw [hU]; exact ((hE0.kept (fun a h1 h2 => hS.2.1 a h1 h2)).narrow hFc).moved hW.alike, by (try dsimp only); rw [hU]; exact ((hE1.kept (fun a h1 h2 => hS.2.1 a h1 h2)).narrow hFc).moved hW.alike, va_AO.moved hW.alike hE2⟩⟩ rfl rfl hl.1 rfl (lv_room (Nat.le_of_ble_eq_true rfl)) d_AL_add3L_7 ⟨(Nat.le_of_ble_eq_true rfl), (Nat.le_of_ble_eq_true rfl)⟩) hS (fun q _ h => hFc q h) hFc (fun u r1 t H1 locs ht hvm hr1 hB hz1 hk1 hS => ?_)
    obtain ⟨cB2, hP1, hK1, hD1⟩ := hB
    rw [ht] at hP1
    have hK1 := va_K.moved hvm.symm hK1
    obtain ⟨hP, hD⟩ := va_join (wr := [(e0, .inr (9, [.int me, .ref ede, .int ne]))]) (w1 := [(h0, .inr (9, [.int md, .ref r1, .int 0])), (r1, .inl (cB2, 10, .inr (.inr (.inr (.inr (fun _ => none))))))]) hP hD [0] [1] rfl rfl (by decide) (by decide) hk1 hFc hP1 hD1
    have hK := hK.app (hK1.sub (tys' := [(cB2, .object "java/lang/Object")]) [0] rfl)
    have hK : va_K (dC, dI) classes [(cB2, .object "java/lang/Object")] s := hK
    clear hPc hDc hKc hFc hP1 hD1 hK1 hk1
    generalize H1 = H at hP hS ⊢
    have hP : va_P (dC, dI) classes [(e0, .inr (9, [.int me, .ref ede, .int ne])), (h0, .inr (9, [.int md, .ref r1, .int 0])), (r1, .inl (cB2, 10, .inr (.inr (.inr (.inr (fun _ => none))))))] H := hP
    have hD : va_D A [(e0, .inr (9, [.int me, .ref ede, .int ne])), (h0, .inr (9, [.int md, .ref r1, .int 0])), (r1, .inl (cB2, 10, .inr (.inr (.inr (.inr (fun _ => none))))))] := hD
    refine W.widen (k := 1) (n := 10) (by omega) (by omega) ?_
    refine lv_astore_n (lv' := [(2, .ref r1), (0, .ref h0), (1, .ref e0), (3, .int 0)]) hx hb d_AL_add3L_10 rfl hl (by decide) rfl (fun ls hl => ?_)
    refine lv_aload_n hx hb d_AL_add3L_11 rfl (lv_at hl 0 rfl) ?_
    refine lv_iload_n hx hb d_AL_add3L_12 rfl (lv_at hl 3 rfl) ?_
    refine lv_aload_n hx hb d_AL_add3L_13 rfl (lv_at hl 2 rfl) ?_
    refine va_astqO (D := (dC, dI)) hx hb hK hP hD hS 2 0 0 9 rfl rfl hE3 rfl rfl (by unfold vp_in; decide) d_AL_add3L_14 (fun H locs hP hD hS => ?_)
    have hP : va_P (dC, dI) classes [(e0, .inr (9, [.int me, .ref ede, .int ne])), (h0, .inr (9, [.int md, .ref r1, .int 0])), (r1, .inl (cB2, 10, .inr (.inr (.inr (.inr (va_up (fun _ => none) (0 : Int32).toNatClampNeg (some e0)))))))] H := hP
    have hD : va_D A [(e0, .inr (9, [.int me, .ref ede, .int ne])), (h0, .inr (9, [.int md, .ref r1, .int 0])), (r1, .inl (cB2, 10, .inr (.inr (.inr (.inr (va_up (fun _ => none) (0 : Int32).toNatClampNeg (some e0)))))))] := hD
    obtain ⟨f3, ef3⟩ : ∃ z : Nat → Option Nat, z = va_up (fun _ => none) (0 : Int32).toNatClampNeg (some e0) := ⟨_, rfl⟩
    rw [← ef3] at hP hD
    refine lv_aload_n hx hb d_AL_add3L_15 rfl (lv_at hl 1 rfl) ?_
    refine lv_iload_n hx hb d_AL_add3L_16 rfl (lv_at hl 3 rfl) ?_
    refine lv_iconst (v := 1) hx hb d_AL_add3L_17 (by decide) ?_
    refine lv_iadd hx hb d_AL_add3L_18 ?_
    refine lv_topi (fun x4 ex4 => ?_)
    obtain rfl : 1 = x4 := Eq.symm (by rw [ex4]; decide)
    refine va_put (D := (dC, dI)) (ci := 9) (v := .int 1) (ty := .int) (C := R_AL) (T := T_AL) (N := 3) hx hb hts in_AL_add3L_AL t_AL t_AL_ok n_AL hown hK hP hD hS 1 rfl rfl 2 (by decide) (hts (.fieldLink "java/util/ArrayList" 48 "java/util/ArrayList" "size" "I") (List.mem_of_getElem? (i := 9) rfl)) (fun _ h9 => h9) rfl (by decide +kernel) rfl rfl (Nat.le_of_ble_eq_true rfl) d_AL_add3L_19 (fun H locs hP hD hS => ?_)
    have hP : va_P (dC, dI) classes [(e0, .inr (9, [.int me, .ref ede, .int ne])), (h0, .inr (9, [.int md, .ref r1, .int 1])), (r1, .inl (cB2, 10, .inr (.inr (.inr (.inr (f3))))))] H := hP
    have hD : va_D A [(e0, .inr (9, [.int me, .ref ede, .int ne])), (h0, .inr (9, [.int md, .ref r1, .int 1])), (r1, .inl (cB2, 10, .inr (.inr (.inr (.inr (f3))))))] := hD
    have hP9 : va_P (dC, dI) classes [(h0, .inr (9, [.int md, .ref r1, .int 1])), (r1, .inl (cB2, 10, .inr (.inr (.inr (.inr (f3)))))), (e0, .inr (9, [.int me, .ref ede, .int ne]))] H := hP.sub (ws' := [(h0, .inr (9, [.int md, .ref r1, .int 1])), (r1, .inl (cB2, 10, .inr (.inr (.inr (.inr (f3)))))), (e0, .inr (9, [.int me, .ref ede, .int ne]))]) [1, 2, 0] rfl
    have hD9 := hD.sub (ws' := [(h0, .inr (9, [.int md, .ref r1, .int 1])), (r1, .inl (cB2, 10, .inr (.inr (.inr (.inr (f3)))))), (e0, .inr (9, [.int me, .ref ede, .int ne]))]) [1, 2, 0] (by decide) rfl
    have hK9 := hK.sub (tys' := [(cB2, .object "java/lang/Object")]) [0] rfl
    refine W.widen (k := 1) (n := 10) (by omega) (by omega) ?_
    exact W.vret hx hb hr (fun t ht hW => ⟨⟨(), rfl, trivial, ⟨r1, ⟨cB2, ⟨f3, ⟨by rw [ht]; exact hP9, va_K.moved hW.alike hK9, hD9, (by rw [ef3, show (0 : Int32).toNatClampNeg = 0 by decide]; exact va_up_self _ _ _)⟩⟩⟩⟩⟩, hS.F ht⟩) hS.2.2 d_AL_add3L_22

abbrev rm_AL_addL : Room := { frames := 4, cells := 1, slots := 10, locals := 80 }
abbrev b_AL_addL : ByteArray := prog_50_method_25_code
def y_AL_addL : MethodName := ⟨"java/util/ArrayList", "add", "(Ljava/lang/Object;)Z"⟩
def w_AL_addL : List Cond := [.code ⟨"java/util/ArrayList", "add", "(Ljava/lang/Object;)Z"⟩ prog_50_method_25_code 2 (some .boolean), .sameField "java/util/ArrayList" "java/util/AbstractList" "modCount" "I", .lays "java/util/ArrayList" "java/util/AbstractList" "modCount" "I", .lays "java/util/ArrayList" "java/util/ArrayList" "elementData" "[Ljava/lang/Object;", .lays "java/util/ArrayList" "java/util/ArrayList" "size" "I", .fieldLink "java/util/ArrayList" 63 "java/util/ArrayList" "modCount" "I", .fieldLink "java/util/ArrayList" 9 "java/util/ArrayList" "elementData" "[Ljava/lang/Object;", .fieldLink "java/util/ArrayList" 48 "java/util/ArrayList" "size" "I", .methodLink "java/util/ArrayList" 131 ⟨"java/util/ArrayList", "add", "(Ljava/lang/Object;[Ljava/lang/Object;I)V"⟩, .instanceMethod ⟨"java/util/ArrayList", "add", "(Ljava/lang/Object;[Ljava/lang/Object;I)V"⟩, .selects "java/util/ArrayList" ⟨"java/util/ArrayList", "add", "(Ljava/lang/Object;[Ljava/lang/Object;I)V"⟩ ⟨"java/util/ArrayList", "add", "(Ljava/lang/Object;[Ljava/lang/Object;I)V"⟩, .initialized "java/util/ArrayList", .code ⟨"java/util/ArrayList", "add", "(Ljava/lang/Object;[Ljava/lang/Object;I)V"⟩ prog_50_method_24_code 4 none, .methodLink "java/util/ArrayList" 129 ⟨"java/util/ArrayList", "grow", "()[Ljava/lang/Object;"⟩, .instanceMethod ⟨"java/util/ArrayList", "grow", "()[Ljava/lang/Object;"⟩, .selects "java/util/ArrayList" ⟨"java/util/ArrayList", "grow", "()[Ljava/lang/Object;"⟩ ⟨"java/util/ArrayList", "grow", "()[Ljava/lang/Object;"⟩, .code ⟨"java/util/ArrayList", "grow", "()[Ljava/lang/Object;"⟩ prog_50_method_7_code 1 (some (.array (.object "java/lang/Object"))), .methodLink "java/util/ArrayList" 69 ⟨"java/util/ArrayList", "grow", "(I)[Ljava/lang/Object;"⟩, .instanceMethod ⟨"java/util/ArrayList", "grow", "(I)[Ljava/lang/Object;"⟩, .selects "java/util/ArrayList" ⟨"java/util/ArrayList", "grow", "(I)[Ljava/lang/Object;"⟩ ⟨"java/util/ArrayList", "grow", "(I)[Ljava/lang/Object;"⟩, .code ⟨"java/util/ArrayList", "grow", "(I)[Ljava/lang/Object;"⟩ prog_50_method_6_code 4 (some (.array (.object "java/lang/Object"))), .fieldLink "java/util/ArrayList" 39 "java/util/ArrayList" "DEFAULTCAPACITY_EMPTY_ELEMENTDATA" "[Ljava/lang/Object;", .methodLink "java/util/ArrayList" 79 ⟨"java/lang/Math", "max", "(II)I"⟩, .static ⟨"java/lang/Math", "max", "(II)I"⟩, .initialized "java/lang/Math", .code ⟨"java/lang/Math", "max", "(II)I"⟩ prog_31_method_65_code 2 (some .int), .classLink "java/util/ArrayList" 7 "java/lang/Object"]
theorem d_AL_addL_0 : decode b_AL_addL 0 = .ok (.aload_n 0, 1) := by decide +kernel
theorem d_AL_addL_1 : decode b_AL_addL 1 = .ok (.dup, 1) := by decide +kernel
theorem d_AL_addL_2 : decode b_AL_addL 2 = .ok (.getfield 63, 3) := by decide +kernel
theorem d_AL_addL_5 : decode b_AL_addL 5 = .ok (.iconst 1, 1) := by decide +kernel
theorem d_AL_addL_6 : decode b_AL_addL 6 = .ok (.iadd, 1) := by decide +kernel
theorem d_AL_addL_7 : decode b_AL_addL 7 = .ok (.putfield 63, 3) := by decide +kernel
theorem d_AL_addL_10 : decode b_AL_addL 10 = .ok (.aload_n 0, 1) := by decide +kernel
theorem d_AL_addL_11 : decode b_AL_addL 11 = .ok (.aload_n 1, 1) := by decide +kernel
theorem d_AL_addL_12 : decode b_AL_addL 12 = .ok (.aload_n 0, 1) := by decide +kernel
theorem d_AL_addL_13 : decode b_AL_addL 13 = .ok (.getfield 9, 3) := by decide +kernel
theorem d_AL_addL_16 : decode b_AL_addL 16 = .ok (.aload_n 0, 1) := by decide +kernel
theorem d_AL_addL_17 : decode b_AL_addL 17 = .ok (.getfield 48, 3) := by decide +kernel
theorem d_AL_addL_20 : decode b_AL_addL 20 = .ok (.invokevirtual 131, 3) := by decide +kernel
theorem d_AL_addL_23 : decode b_AL_addL 23 = .ok (.iconst 1, 1) := by decide +kernel
theorem d_AL_addL_24 : decode b_AL_addL 24 = .ok (.ireturn, 1) := by decide +kernel
theorem in_AL_addL_AL : ∀ v ∈ u_ws R_AL T_AL 3, v ∈ w_AL_addL := by decide +kernel
set_option maxRecDepth 20000 in
theorem g_AL_addL_20 : GoodIn w_AL_addL (wsV "java/util/ArrayList" 131 "java/util/ArrayList" ⟨"java/util/ArrayList", "add", "(Ljava/lang/Object;[Ljava/lang/Object;I)V"⟩ w_AL_add3L) := goodIn_r _ [8, 9, 10, 11, 12, 13, 14, 15, 11, 16, 2, 3, 4, 7, 17, 18, 19, 20, 6, 21, 22, 23, 24, 25, 26] rfl (by decide +kernel)
set_option maxHeartbeats 4000000 in
set_option maxRecDepth 100000 in
theorem c_AL_addL (l : Launch) (dC : Nat → ClassId) (dI : Nat → Nat → Nat) (de : Nat) (fde : Nat → Value) (h0 : Nat) (md : Int32) (e0 : Nat) (me : Int32) (ede : Nat) (ne : Int32) (sz : Nat) : Met l y_AL_addL w_AL_addL rm_AL_addL (va_Pc [.ref h0, .ref e0] (fun U => U.heap.size = sz ∧ va_P (dC, dI) classes [(h0, .inr (9, [.int md, .ref de, .int 0])), (e0, .inr (9, [.int me, .ref ede, .int ne]))] U.heap ∧ va_K (dC, dI) classes [] U ∧ va_D (fun _ => True) [(h0, .inr (9, [.int md, .ref de, .int 0])), (e0, .inr (9, [.int me, .ref ede, .int ne]))] ∧ va_Z "java/util/ArrayList" "DEFAULTCAPACITY_EMPTY_ELEMENTDATA" "[Ljava/lang/Object;" (.ref de) (va_A [(h0, .inr (9, [.int md, .ref de, .int 0])), (e0, .inr (9, [.int me, .ref ede, .int ne]))] sz) U U.heap ∧ va_T (.object "java/lang/Object") de 0 fde (va_A [(h0, .inr (9, [.int md, .ref de, .int 0])), (e0, .inr (9, [.int me, .ref ede, .int ne]))] sz) U U.heap ∧ va_AO "java/lang/Object" U ∧ va_Nw (.castable "java/util/ArrayList" "java/lang/Object") U)) (va_Qi (fun r (_ : Unit) => r = 1) (fun _ t => ∃ m1 : Int32, ∃ ed : Nat, ∃ cB : ClassId, ∃ f1 : Nat → Option Nat, va_P (dC, dI) classes [(h0, .inr (9, [.int m1, .ref ed, .int 1])), (ed, .inl (cB, 10, .inr (.inr (.inr (.inr (f1)))))), (e0, .inr (9, [.int me, .ref ede, .int ne]))] t.heap ∧ va_K (dC, dI) classes [(cB, .object "java/lang/Object")] t ∧ va_D (va_A [(h0, .inr (9, [.int md, .ref de, .int 0])), (e0, .inr (9, [.int me, .ref ede, .int ne]))] sz) [(h0, .inr (9, [.int m1, .ref ed, .int 1])), (ed, .inl (cB, 10, .inr (.inr (.inr (.inr (f1)))))), (e0, .inr (9, [.int me, .ref ede, .int ne]))] ∧ f1 0 = some e0) (va_A [(h0, .inr (9, [.int md, .ref de, .int 0])), (e0, .inr (9, [.int me, .ref ede, .int ne]))] sz)) 1 10 (va_A [(h0, .inr (9, [.int md, .ref de, .int 0])), (e0, .inr (9, [.int me, .ref ede, .int ne]))] sz) := by
  refine Met.ofW (cc := b_AL_addL) (maxL := 2) (ret := (some .boolean)) (by decide) rfl ?_
  intro p e s m args below meth c s₁ B hml hv
  obtain ⟨rfl, hsz, hP, hK, hD0, hE0, hE1, hE2, hE3⟩ := hv
  have hx := B.exec
  have hb := B.bytes
  have hr := B.returns
  have hts := atoms_spec (ws := w_AL_addL) B.pre
  have hown : s.vm.findClass "java/util/ArrayList" = some m.cls := findClass_of_methodNamed B.named
  have hlocks := B.notSynchronized
  subst hsz
  have hD := hD0.self (sz := s.heap.size)
  generalize hAe : va_A [(h0, .inr (9, [.int md, .ref de, .int 0])), (e0, .inr (9, [.int me, .ref ede, .int ne]))] s.heap.size = A at hD hE0 hE1 hE2 hE3 ⊢
  have hA : ∀ q : Nat, s.heap.size ≤ q → A q := fun q h => by rw [← hAe]; exact Or.inr h
  have hS : va_S A s.heap s.heap [] := va_S.rf
  have hP : va_P (dC, dI) classes [(h0, .inr (9, [.int md, .ref de, .int 0])), (e0, .inr (9, [.int me, .ref ede, .int ne]))] s.heap := hP
  have hl := lv_entry ([.ref h0, .ref e0]) (n := 2) (Nat.le_of_ble_eq_true rfl)
  rw [lg_entry_eq]
  generalize (lg_sl ([.ref h0, .ref e0]) ++ List.replicate (2 - (lg_sl ([.ref h0, .ref e0])).length) Slot.unset).toArray = ls at hl ⊢
  have hl : lv_has ls 2 [(0, .ref h0), (1, .ref e0)] := hl
  refine lv_aload_n hx hb d_AL_addL_0 rfl (lv_at hl 0 rfl) ?_
  refine lv_dup hx hb d_AL_addL_1 rfl ?_
  refine va_get (D := (dC, dI)) (ci := 9) (v := .int md) (C := R_AL) (T := T_AL) (N := 3) hx hb hts in_AL_addL_AL hown hK hP 0 rfl rfl 0 (by decide) (hts (.fieldLink "java/util/ArrayList" 63 "java/util/ArrayList" "modCount" "I") (List.mem_of_getElem? (i := 5) rfl)) (fun x9 h9 => u_same (hts (.sameField "java/util/ArrayList" "java/util/AbstractList" "modCount" "I") (List.mem_of_getElem? (i := 1) rfl)) x9 h9) rfl d_AL_addL_2 ?_
  refine lv_iconst (v := 1) hx hb d_AL_addL_5 (by decide) ?_
  refine lv_iadd hx hb d_AL_addL_6 ?_
  refine lv_topi (fun x1 ex1 => ?_)
  refine va_put (D := (dC, dI)) (ci := 9) (v := .int x1) (ty := .int) (C := R_AL) (T := T_AL) (N := 3) hx hb hts in_AL_addL_AL t_AL t_AL_ok n_AL hown hK hP hD hS 0 rfl rfl 0 (by decide) (hts (.fieldLink "java/util/ArrayList" 63 "java/util/ArrayList" "modCount" "I") (List.mem_of_getElem? (i := 5) rfl)) (fun x9 h9 => u_same (hts (.sameField "java/util/ArrayList" "java/util/AbstractList" "modCount" "I") (List.mem_of_getElem? (i := 1) rfl)) x9 h9) rfl (by decide +kernel) rfl rfl (Nat.le_of_ble_eq_true rfl) d_AL_addL_7 (fun H locs hP hD hS => ?_)
  have hP : va_P (dC, dI) classes [(h0, .inr (9, [.int x1, .ref de, .int 0])), (e0, .inr (9, [.int me, .ref ede, .int ne]))] H := hP
  have hD : va_D A [(h0, .inr (9, [.int x1, .ref de, .int 0])), (e0, .inr (9, [.int me, .ref ede, .int ne]))] := hD
  refine lv_aload_n hx hb d_AL_addL_10 rfl (lv_at hl 0 rfl) ?_
  refine lv_aload_n hx hb d_AL_addL_11 rfl (lv_at hl 1 rfl) ?_
  refine lv_aload_n hx hb d_AL_addL_12 rfl (lv_at hl 0 rfl) ?_
  refine va_get (D := (dC, dI)) (ci := 9) (v := .ref de) (C := R_AL) (T := T_AL) (N := 3) hx hb hts in_AL_addL_AL hown hK hP 0 rfl rfl 1 (by decide) (hts (.fieldLink "java/util/ArrayList" 9 "java/util/ArrayList" "elementData" "[Ljava/lang/Object;") (List.mem_of_getElem? (i := 6) rfl)) (fun _ h9 => h9) rfl d_AL_addL_13 ?_
  refine lv_aload_n hx hb d_AL_addL_16 rfl (lv_at hl 0 rfl) ?_
  refine va_get (D := (dC, dI)) (ci := 9) (v := .int 0) (C := R_AL) (T := T_AL) (N := 3) hx hb hts in_AL_addL_AL hown hK hP 0 rfl rfl 2 (by decide) (hts (.fieldLink "java/util/ArrayList" 48 "java/util/ArrayList" "size" "I") (List.mem_of_getElem? (i := 7) rfl)) (fun _ h9 => h9) rfl d_AL_addL_17 ?_
  have hPc : va_P (dC, dI) classes [(h0, .inr (9, [.int x1, .ref de, .int 0])), (e0, .inr (9, [.int me, .ref ede, .int ne]))] _ := hP.sub (ws' := [(h0, .inr (9, [.int x1, .ref de, .int 0])), (e0, .inr (9, [.int me, .ref ede, .int ne]))]) [0, 1] rfl
  have hKc : va_K (dC, dI) classes [] s := hK.sub (tys' := []) [] rfl
  have hDc : va_D _ [(h0, .inr (9, [.int x1, .ref de, .int 0])), (e0, .inr (9, [.int me, .ref ede, .int ne]))] := hD.sub (ws' := [(h0, .inr (9, [.int x1, .ref de, .int 0])), (e0, .inr (9, [.int me, .ref ede, .int ne]))]) [0, 1] (by decide) rfl
  have hFc := va_free (wc := [(h0, .inr (9, [.int x1, .ref de, .int 0])), (e0, .inr (9, [.int me, .ref ede, .int ne]))]) hD hS hA [0, 1] rfl
  refine va_callv (va_runV (As := [.ref e0, .ref de, .int 0]) (rest := []) ⟨hx, hb, hml, hown, hts⟩ (c_AL_add3L l dC dI de fde h0 x1 e0 me ede ne H.size) (cwV 3 hts g_AL_addL_20 rfl rfl rfl (by decide +kernel) ⟨Nat.le_of_ble_eq_true rfl, Nat.le_of_ble_eq_true rfl⟩) ⟨fun a U g mk z => by obtain ⟨z0, z1, zP, zK, zD, zE0, zE1, zE2, zE3⟩ := z; exact ⟨z0, z1, zP, va_K.moved (u := U) (U := U.calling g mk a) (Vm.Alike.refl U.vm) zK, zD, zE0.moved (u := U) (U := U.calling g mk a) (Vm.Alike.refl U.vm), zE1.moved (u := U) (U := U.calling g mk a) (Vm.Alike.refl U.vm), va_AO.moved (u := U) (U := U.calling g mk a) (Vm.Alike.refl U.vm) zE2, va_Nw.same rfl (u := U) (U := U.calling g mk a) rfl zE3⟩, va_recv hKc hPc (ci := 9) (q0 := 0) rfl rfl, fun U hU hW => ⟨rfl, by rw [hU], by rw [hU]; exact hPc, va_K.moved hW.alike hKc, hDc.weaken (fun _ _ _ _ => trivial), by (try dsimp only); rw [hU]; exact ((hE0.kept (fun a h1 h2 => hS.2.1 a h1 h2)).narrow hFc).moved hW.alike, by (try dsimp only); rw [hU]; exact ((hE1.kept (fun a h1 h2 => hS.2.1 a h1 h2)).narrow hFc).moved hW.alike, va_AO.moved hW.alike hE2, va_Nw.warmC hW hE3⟩⟩ rfl rfl hl.1 rfl (lv_room (Nat.le_of_ble_eq_true rfl)) d_AL_addL_20 ⟨(Nat.le_of_ble_eq_true rfl), (Nat.le_of_ble_eq_true rfl)⟩) hS (fun q _ h => hFc q h) hFc (fun u t H1 locs ht hvm hr2 hB hz1 hk1 hS => ?_)
  obtain ⟨ed3, cB4, f5, hP1, hK1, hD1, hpr2_0⟩ := hB
  rw [ht] at hP1
  have hK1 := va_K.moved hvm.symm hK1
  obtain ⟨hP, hD⟩ := va_join (wr := []) (w1 := [(h0, .inr (9, [.int x1, .ref ed3, .int 1])), (ed3, .inl (cB4, 10, .inr (.inr (.inr (.inr (f5)))))), (e0, .inr (9, [.int me, .ref ede, .int ne]))]) hP hD [0, 1] [] rfl rfl (by decide) (by decide) hk1 hFc hP1 hD1
  have hK := hK.app (hK1.sub (tys' := [(cB4, .object "java/lang/Object")]) [0] rfl)
  have hK : va_K (dC, dI) classes [(cB4, .object "java/lang/Object")] s := hK
  clear hPc hDc hKc hFc hP1 hD1 hK1 hk1
  generalize H1 = H at hP hS ⊢
  have hP : va_P (dC, dI) classes [(h0, .inr (9, [.int x1, .ref ed3, .int 1])), (ed3, .inl (cB4, 10, .inr (.inr (.inr (.inr (f5)))))), (e0, .inr (9, [.int me, .ref ede, .int ne]))] H := hP
  have hD : va_D A [(h0, .inr (9, [.int x1, .ref ed3, .int 1])), (ed3, .inl (cB4, 10, .inr (.inr (.inr (.inr (f5)))))), (e0, .inr (9, [.int me, .ref ede, .int ne]))] := hD
  refine W.widen (k := 1) (n := 10) (by omega) (by omega) ?_
  refine lv_iconst (v := 1) hx hb d_AL_addL_23 (by decide) ?_
  have hP9 : va_P (dC, dI) classes [(h0, .inr (9, [.int x1, .ref ed3, .int 1])), (ed3, .inl (cB4, 10, .inr (.inr (.inr (.inr (f5)))))), (e0, .inr (9, [.int me, .ref ede, .int ne]))] H := hP.sub (ws' := [(h0, .inr (9, [.int x1, .ref ed3, .int 1])), (ed3, .inl (cB4, 10, .inr (.inr (.inr (.inr (f5)))))), (e0, .inr (9, [.int me, .ref ede, .int ne]))]) [0, 1, 2] rfl
  have hD9 := hD.sub (ws' := [(h0, .inr (9, [.int x1, .ref ed3, .int 1])), (ed3, .inl (cB4, 10, .inr (.inr (.inr (.inr (f5)))))), (e0, .inr (9, [.int me, .ref ede, .int ne]))]) [0, 1, 2] (by decide) rfl
  have hK9 := hK.sub (tys' := [(cB4, .object "java/lang/Object")]) [0] rfl
  refine W.widen (k := 1) (n := 10) (by omega) (by omega) ?_
  exact W.zret hx hb hr rfl (fun t ht hW => ⟨⟨_, (), rfl, rfl, ⟨x1, ⟨ed3, ⟨cB4, ⟨f5, ⟨by rw [ht]; exact hP9, va_K.moved hW.alike hK9, hD9, hpr2_0⟩⟩⟩⟩⟩⟩, hS.F ht⟩) hS.2.2 d_AL_addL_24

abbrev rm_AL_add3B : Room := { frames := 3, cells := 1, slots := 10, locals := 57 }
abbrev b_AL_add3B : ByteArray := prog_50_method_24_code
def y_AL_add3B : MethodName := ⟨"java/util/ArrayList", "add", "(Ljava/lang/Object;[Ljava/lang/Object;I)V"⟩
def w_AL_add3B : List Cond := [.code ⟨"java/util/ArrayList", "add", "(Ljava/lang/Object;[Ljava/lang/Object;I)V"⟩ prog_50_method_24_code 4 none, .methodLink "java/util/ArrayList" 129 ⟨"java/util/ArrayList", "grow", "()[Ljava/lang/Object;"⟩, .instanceMethod ⟨"java/util/ArrayList", "grow", "()[Ljava/lang/Object;"⟩, .selects "java/util/ArrayList" ⟨"java/util/ArrayList", "grow", "()[Ljava/lang/Object;"⟩ ⟨"java/util/ArrayList", "grow", "()[Ljava/lang/Object;"⟩, .initialized "java/util/ArrayList", .code ⟨"java/util/ArrayList", "grow", "()[Ljava/lang/Object;"⟩ prog_50_method_7_code 1 (some (.array (.object "java/lang/Object"))), .lays "java/util/ArrayList" "java/util/AbstractList" "modCount" "I", .lays "java/util/ArrayList" "java/util/ArrayList" "elementData" "[Ljava/lang/Object;", .lays "java/util/ArrayList" "java/util/ArrayList" "size" "I", .fieldLink "java/util/ArrayList" 48 "java/util/ArrayList" "size" "I", .methodLink "java/util/ArrayList" 69 ⟨"java/util/ArrayList", "grow", "(I)[Ljava/lang/Object;"⟩, .instanceMethod ⟨"java/util/ArrayList", "grow", "(I)[Ljava/lang/Object;"⟩, .selects "java/util/ArrayList" ⟨"java/util/ArrayList", "grow", "(I)[Ljava/lang/Object;"⟩ ⟨"java/util/ArrayList", "grow", "(I)[Ljava/lang/Object;"⟩, .code ⟨"java/util/ArrayList", "grow", "(I)[Ljava/lang/Object;"⟩ prog_50_method_6_code 4 (some (.array (.object "java/lang/Object"))), .fieldLink "java/util/ArrayList" 9 "java/util/ArrayList" "elementData" "[Ljava/lang/Object;", .fieldLink "java/util/ArrayList" 39 "java/util/ArrayList" "DEFAULTCAPACITY_EMPTY_ELEMENTDATA" "[Ljava/lang/Object;", .methodLink "java/util/ArrayList" 79 ⟨"java/lang/Math", "max", "(II)I"⟩, .static ⟨"java/lang/Math", "max", "(II)I"⟩, .initialized "java/lang/Math", .code ⟨"java/lang/Math", "max", "(II)I"⟩ prog_31_method_65_code 2 (some .int), .classLink "java/util/ArrayList" 7 "java/lang/Object"]
theorem d_AL_add3B_0 : decode b_AL_add3B 0 = .ok (.iload_n 3, 1) := by decide +kernel
theorem d_AL_add3B_1 : decode b_AL_add3B 1 = .ok (.aload_n 2, 1) := by decide +kernel
theorem d_AL_add3B_2 : decode b_AL_add3B 2 = .ok (.arraylength, 1) := by decide +kernel
theorem d_AL_add3B_3 : decode b_AL_add3B 3 = .ok (.if_icmp .ne 8, 3) := by decide +kernel
theorem d_AL_add3B_6 : decode b_AL_add3B 6 = .ok (.aload_n 0, 1) := by decide +kernel
theorem d_AL_add3B_7 : decode b_AL_add3B 7 = .ok (.invokevirtual 129, 3) := by decide +kernel
theorem d_AL_add3B_10 : decode b_AL_add3B 10 = .ok (.astore_n 2, 1) := by decide +kernel
theorem d_AL_add3B_11 : decode b_AL_add3B 11 = .ok (.aload_n 2, 1) := by decide +kernel
theorem d_AL_add3B_12 : decode b_AL_add3B 12 = .ok (.iload_n 3, 1) := by decide +kernel
theorem d_AL_add3B_13 : decode b_AL_add3B 13 = .ok (.aload_n 1, 1) := by decide +kernel
theorem d_AL_add3B_14 : decode b_AL_add3B 14 = .ok (.aastore, 1) := by decide +kernel
theorem d_AL_add3B_15 : decode b_AL_add3B 15 = .ok (.aload_n 0, 1) := by decide +kernel
theorem d_AL_add3B_16 : decode b_AL_add3B 16 = .ok (.iload_n 3, 1) := by decide +kernel
theorem d_AL_add3B_17 : decode b_AL_add3B 17 = .ok (.iconst 1, 1) := by decide +kernel
theorem d_AL_add3B_18 : decode b_AL_add3B 18 = .ok (.iadd, 1) := by decide +kernel
theorem d_AL_add3B_19 : decode b_AL_add3B 19 = .ok (.putfield 48, 3) := by decide +kernel
theorem d_AL_add3B_22 : decode b_AL_add3B 22 = .ok (.return_, 1) := by decide +kernel
theorem in_AL_add3B_AL : ∀ v ∈ u_ws R_AL T_AL 3, v ∈ w_AL_add3B := by decide +kernel
set_option maxRecDepth 20000 in
theorem g_AL_add3B_7 : GoodIn w_AL_add3B (wsV "java/util/ArrayList" 129 "java/util/ArrayList" ⟨"java/util/ArrayList", "grow", "()[Ljava/lang/Object;"⟩ w_AL_grow) := goodIn_r _ [1, 2, 3, 4, 5, 6, 7, 8, 9, 10, 11, 12, 4, 13, 14, 15, 16, 17, 18, 19, 20] rfl (by decide +kernel)
set_option maxHeartbeats 4000000 in
set_option maxRecDepth 100000 in
theorem c_AL_add3B (l : Launch) (dC : Nat → ClassId) (dI : Nat → Nat → Nat) (de : Nat) (fde : Nat → Value) (h0 : Nat) (md : Int32) (e0 : Nat) (sz : Nat) : Met l y_AL_add3B w_AL_add3B rm_AL_add3B (va_Pc [.ref h0, .ref e0, .ref de, .int 0] (fun U => U.heap.size = sz ∧ va_P (dC, dI) classes [(h0, .inr (9, [.int md, .ref de, .int 0]))] U.heap ∧ va_K (dC, dI) classes [] U ∧ va_D (fun _ => True) [(h0, .inr (9, [.int md, .ref de, .int 0]))] ∧ va_Z "java/util/ArrayList" "DEFAULTCAPACITY_EMPTY_ELEMENTDATA" "[Ljava/lang/Object;" (.ref de) (va_A [(h0, .inr (9, [.int md, .ref de, .int 0]))] sz) U U.heap ∧ va_T (.object "java/lang/Object") de 0 fde (va_A [(h0, .inr (9, [.int md, .ref de, .int 0]))] sz) U U.heap ∧ va_O "java/lang/Integer" e0 (va_A [(h0, .inr (9, [.int md, .ref de, .int 0]))] sz) U U.heap ∧ va_Nw (.castable "java/lang/Integer" "java/lang/Object") U ∧ va_AO "java/lang/Object" U)) (va_Qv (fun (_ : Unit) => True) (fun _ t => ∃ ed : Nat, ∃ cB : ClassId, ∃ f1 : Nat → Option Nat, va_P (dC, dI) classes [(h0, .inr (9, [.int md, .ref ed, .int 1])), (ed, .inl (cB, 10, .inr (.inr (.inr (.inr (f1))))))] t.heap ∧ va_K (dC, dI) classes [(cB, .object "java/lang/Object")] t ∧ va_D (va_A [(h0, .inr (9, [.int md, .ref de, .int 0]))] sz) [(h0, .inr (9, [.int md, .ref ed, .int 1])), (ed, .inl (cB, 10, .inr (.inr (.inr (.inr (f1))))))] ∧ f1 0 = some e0) (va_A [(h0, .inr (9, [.int md, .ref de, .int 0]))] sz)) 1 10 (va_A [(h0, .inr (9, [.int md, .ref de, .int 0]))] sz) := by
  refine Met.ofW (cc := b_AL_add3B) (maxL := 4) (ret := none) (by decide) rfl ?_
  intro p e s m args below meth c s₁ B hml hv
  obtain ⟨rfl, hsz, hP, hK, hD0, hE0, hE1, hE2, hE3, hE4⟩ := hv
  have hx := B.exec
  have hb := B.bytes
  have hr := B.returns
  have hts := atoms_spec (ws := w_AL_add3B) B.pre
  have hown : s.vm.findClass "java/util/ArrayList" = some m.cls := findClass_of_methodNamed B.named
  have hlocks := B.notSynchronized
  subst hsz
  have hD := hD0.self (sz := s.heap.size)
  generalize hAe : va_A [(h0, .inr (9, [.int md, .ref de, .int 0]))] s.heap.size = A at hD hE0 hE1 hE2 hE3 hE4 ⊢
  have hA : ∀ q : Nat, s.heap.size ≤ q → A q := fun q h => by rw [← hAe]; exact Or.inr h
  have hS : va_S A s.heap s.heap [] := va_S.rf
  have hP : va_P (dC, dI) classes [(h0, .inr (9, [.int md, .ref de, .int 0]))] s.heap := hP
  have hl := lv_entry ([.ref h0, .ref e0, .ref de, .int 0]) (n := 4) (Nat.le_of_ble_eq_true rfl)
  rw [lg_entry_eq]
  generalize (lg_sl ([.ref h0, .ref e0, .ref de, .int 0]) ++ List.replicate (4 - (lg_sl ([.ref h0, .ref e0, .ref de, .int 0])).length) Slot.unset).toArray = ls at hl ⊢
  have hl : lv_has ls 4 [(0, .ref h0), (1, .ref e0), (2, .ref de), (3, .int 0)] := hl
  refine lv_iload_n hx hb d_AL_add3B_0 rfl (lv_at hl 3 rfl) ?_
  refine lv_aload_n hx hb d_AL_add3B_1 rfl (lv_at hl 2 rfl) ?_
  refine va_tlen (v := 0) hx hb hE1 hS (by decide) d_AL_add3B_2 ?_
  refine lv_icmp_ne (tgt := 11) hx hb d_AL_add3B_3 (by decide) (fun c_3 => ?_) (fun c_3 => ?_)
  · exact absurd c_3 (fun q => q rfl)
  · skip
    refine lv_aload_n hx hb d_AL_add3B_6 rfl (lv_at hl 0 rfl) ?_
    have hPc : va_P (dC, dI) classes [(h0, .inr (9, [.int md, .ref de, .int 0]))] _ := hP.sub (ws' := [(h0, .inr (9, [.int md, .ref de, .int 0]))]) [0] rfl
    have hKc : va_K (dC, dI) classes [] s := hK.sub (tys' := []) [] rfl
    have hDc : va_D _ [(h0, .inr (9, [.int md, .ref de, .int 0]))] := hD.sub (ws' := [(h0, .inr (9, [.int md, .ref de, .int 0]))]) [0] (by decide) rfl
    have hFc := va_free (wc := [(h0, .inr (9, [.int md, .ref de, .int 0]))]) hD hS hA [0] rfl
    refine va_callr (va_runV (As := []) (rest := []) ⟨hx, hb, hml, hown, hts⟩ (c_AL_grow l dC dI de fde h0 md s.heap.size) (cwV 0 hts g_AL_add3B_7 rfl rfl rfl (by decide +kernel) ⟨Nat.le_of_ble_eq_true rfl, Nat.le_of_ble_eq_true rfl⟩) ⟨fun a U g mk z => by obtain ⟨z0, z1, zP, zK, zD, zE0, zE1, zE2⟩ := z; exact ⟨z0, z1, zP, va_K.moved (u := U) (U := U.calling g mk a) (Vm.Alike.refl U.vm) zK, zD, zE0.moved (u := U) (U := U.calling g mk a) (Vm.Alike.refl U.vm), zE1.moved (u := U) (U := U.calling g mk a) (Vm.Alike.refl U.vm), va_AO.moved (u := U) (U := U.calling g mk a) (Vm.Alike.refl U.vm) zE2⟩, va_recv hKc hPc (ci := 9) (q0 := 0) rfl rfl, fun U hU hW => ⟨rfl, by rw [hU], by rw [hU]; exact hPc, va_K.moved hW.alike hKc, hDc.weaken (fun _ _ _ _ => trivial), by (try dsimp only); rw [hU]; exact ((hE0.kept (fun a h1 h2 => hS.2.1 a h1 h2)).narrow hFc).moved hW.alike, by (try dsimp only); rw [hU]; exact ((hE1.kept (fun a h1 h2 => hS.2.1 a h1 h2)).narrow hFc).moved hW.alike, va_AO.moved hW.alike hE4⟩⟩ rfl rfl hl.1 rfl (lv_room (Nat.le_of_ble_eq_true rfl)) d_AL_add3B_7 ⟨(Nat.le_of_ble_eq_true rfl), (Nat.le_of_ble_eq_true rfl)⟩) hS (fun q _ h => hFc q h) hFc (fun u r1 t H1 locs ht hvm hr1 hB hz1 hk1 hS => ?_)
    obtain ⟨cB2, hP1, hK1, hD1⟩ := hB
    rw [ht] at hP1
    have hK1 := va_K.moved hvm.symm hK1
    obtain ⟨hP, hD⟩ := va_join (wr := []) (w1 := [(h0, .inr (9, [.int md, .ref r1, .int 0])), (r1, .inl (cB2, 10, .inr (.inr (.inr (.inr (fun _ => none))))))]) hP hD [0] [] rfl rfl (by decide) (by decide) hk1 hFc hP1 hD1
    have hK := hK.app (hK1.sub (tys' := [(cB2, .object "java/lang/Object")]) [0] rfl)
    have hK : va_K (dC, dI) classes [(cB2, .object "java/lang/Object")] s := hK
    clear hPc hDc hKc hFc hP1 hD1 hK1 hk1
    generalize H1 = H at hP hS ⊢
    have hP : va_P (dC, dI) classes [(h0, .inr (9, [.int md, .ref r1, .int 0])), (r1, .inl (cB2, 10, .inr (.inr (.inr (.inr (fun _ => none))))))] H := hP
    have hD : va_D A [(h0, .inr (9, [.int md, .ref r1, .int 0])), (r1, .inl (cB2, 10, .inr (.inr (.inr (.inr (fun _ => none))))))] := hD
    refine W.widen (k := 1) (n := 10) (by omega) (by omega) ?_
    refine lv_astore_n (lv' := [(2, .ref r1), (0, .ref h0), (1, .ref e0), (3, .int 0)]) hx hb d_AL_add3B_10 rfl hl (by decide) rfl (fun ls hl => ?_)
    refine lv_aload_n hx hb d_AL_add3B_11 rfl (lv_at hl 0 rfl) ?_
    refine lv_iload_n hx hb d_AL_add3B_12 rfl (lv_at hl 3 rfl) ?_
    refine lv_aload_n hx hb d_AL_add3B_13 rfl (lv_at hl 2 rfl) ?_
    refine va_astqM (D := (dC, dI)) hx hb hK hP hD hS 1 0 rfl rfl (ry_any hE2 hS hE3) (by unfold vp_in; decide) d_AL_add3B_14 (fun H locs hP hD hS => ?_)
    have hP : va_P (dC, dI) classes [(h0, .inr (9, [.int md, .ref r1, .int 0])), (r1, .inl (cB2, 10, .inr (.inr (.inr (.inr (va_up (fun _ => none) (0 : Int32).toNatClampNeg (some e0)))))))] H := hP
    have hD : va_D A [(h0, .inr (9, [.int md, .ref r1, .int 0])), (r1, .inl (cB2, 10, .inr (.inr (.inr (.inr (va_up (fun _ => none) (0 : Int32).toNatClampNeg (some e0)))))))] := hD
    obtain ⟨f3, ef3⟩ : ∃ z : Nat → Option Nat, z = va_up (fun _ => none) (0 : Int32).toNatClampNeg (some e0) := ⟨_, rfl⟩
    rw [← ef3] at hP hD
    refine lv_aload_n hx hb d_AL_add3B_15 rfl (lv_at hl 1 rfl) ?_
    refine lv_iload_n hx hb d_AL_add3B_16 rfl (lv_at hl 3 rfl) ?_
    refine lv_iconst (v := 1) hx hb d_AL_add3B_17 (by decide) ?_
    refine lv_iadd hx hb d_AL_add3B_18 ?_
    refine lv_topi (fun x4 ex4 => ?_)
    obtain rfl : 1 = x4 := Eq.symm (by rw [ex4]; decide)
    refine va_put (D := (dC, dI)) (ci := 9) (v := .int 1) (ty := .int) (C := R_AL) (T := T_AL) (N := 3) hx hb hts in_AL_add3B_AL t_AL t_AL_ok n_AL hown hK hP hD hS 0 rfl rfl 2 (by decide) (hts (.fieldLink "java/util/ArrayList" 48 "java/util/ArrayList" "size" "I") (List.mem_of_getElem? (i := 9) rfl)) (fun _ h9 => h9) rfl (by decide +kernel) rfl rfl (Nat.le_of_ble_eq_true rfl) d_AL_add3B_19 (fun H locs hP hD hS => ?_)
    have hP : va_P (dC, dI) classes [(h0, .inr (9, [.int md, .ref r1, .int 1])), (r1, .inl (cB2, 10, .inr (.inr (.inr (.inr (f3))))))] H := hP
    have hD : va_D A [(h0, .inr (9, [.int md, .ref r1, .int 1])), (r1, .inl (cB2, 10, .inr (.inr (.inr (.inr (f3))))))] := hD
    have hP9 : va_P (dC, dI) classes [(h0, .inr (9, [.int md, .ref r1, .int 1])), (r1, .inl (cB2, 10, .inr (.inr (.inr (.inr (f3))))))] H := hP.sub (ws' := [(h0, .inr (9, [.int md, .ref r1, .int 1])), (r1, .inl (cB2, 10, .inr (.inr (.inr (.inr (f3))))))]) [0, 1] rfl
    have hD9 := hD.sub (ws' := [(h0, .inr (9, [.int md, .ref r1, .int 1])), (r1, .inl (cB2, 10, .inr (.inr (.inr (.inr (f3))))))]) [0, 1] (by decide) rfl
    have hK9 := hK.sub (tys' := [(cB2, .object "java/lang/Object")]) [0] rfl
    refine W.widen (k := 1) (n := 10) (by omega) (by omega) ?_
    exact W.vret hx hb hr (fun t ht hW => ⟨⟨(), rfl, trivial, ⟨r1, ⟨cB2, ⟨f3, ⟨by rw [ht]; exact hP9, va_K.moved hW.alike hK9, hD9, (by rw [ef3, show (0 : Int32).toNatClampNeg = 0 by decide]; exact va_up_self _ _ _)⟩⟩⟩⟩⟩, hS.F ht⟩) hS.2.2 d_AL_add3B_22

abbrev rm_AL_addB : Room := { frames := 4, cells := 1, slots := 10, locals := 80 }
abbrev b_AL_addB : ByteArray := prog_50_method_25_code
def y_AL_addB : MethodName := ⟨"java/util/ArrayList", "add", "(Ljava/lang/Object;)Z"⟩
def w_AL_addB : List Cond := [.code ⟨"java/util/ArrayList", "add", "(Ljava/lang/Object;)Z"⟩ prog_50_method_25_code 2 (some .boolean), .sameField "java/util/ArrayList" "java/util/AbstractList" "modCount" "I", .lays "java/util/ArrayList" "java/util/AbstractList" "modCount" "I", .lays "java/util/ArrayList" "java/util/ArrayList" "elementData" "[Ljava/lang/Object;", .lays "java/util/ArrayList" "java/util/ArrayList" "size" "I", .fieldLink "java/util/ArrayList" 63 "java/util/ArrayList" "modCount" "I", .fieldLink "java/util/ArrayList" 9 "java/util/ArrayList" "elementData" "[Ljava/lang/Object;", .fieldLink "java/util/ArrayList" 48 "java/util/ArrayList" "size" "I", .methodLink "java/util/ArrayList" 131 ⟨"java/util/ArrayList", "add", "(Ljava/lang/Object;[Ljava/lang/Object;I)V"⟩, .instanceMethod ⟨"java/util/ArrayList", "add", "(Ljava/lang/Object;[Ljava/lang/Object;I)V"⟩, .selects "java/util/ArrayList" ⟨"java/util/ArrayList", "add", "(Ljava/lang/Object;[Ljava/lang/Object;I)V"⟩ ⟨"java/util/ArrayList", "add", "(Ljava/lang/Object;[Ljava/lang/Object;I)V"⟩, .initialized "java/util/ArrayList", .code ⟨"java/util/ArrayList", "add", "(Ljava/lang/Object;[Ljava/lang/Object;I)V"⟩ prog_50_method_24_code 4 none, .methodLink "java/util/ArrayList" 129 ⟨"java/util/ArrayList", "grow", "()[Ljava/lang/Object;"⟩, .instanceMethod ⟨"java/util/ArrayList", "grow", "()[Ljava/lang/Object;"⟩, .selects "java/util/ArrayList" ⟨"java/util/ArrayList", "grow", "()[Ljava/lang/Object;"⟩ ⟨"java/util/ArrayList", "grow", "()[Ljava/lang/Object;"⟩, .code ⟨"java/util/ArrayList", "grow", "()[Ljava/lang/Object;"⟩ prog_50_method_7_code 1 (some (.array (.object "java/lang/Object"))), .methodLink "java/util/ArrayList" 69 ⟨"java/util/ArrayList", "grow", "(I)[Ljava/lang/Object;"⟩, .instanceMethod ⟨"java/util/ArrayList", "grow", "(I)[Ljava/lang/Object;"⟩, .selects "java/util/ArrayList" ⟨"java/util/ArrayList", "grow", "(I)[Ljava/lang/Object;"⟩ ⟨"java/util/ArrayList", "grow", "(I)[Ljava/lang/Object;"⟩, .code ⟨"java/util/ArrayList", "grow", "(I)[Ljava/lang/Object;"⟩ prog_50_method_6_code 4 (some (.array (.object "java/lang/Object"))), .fieldLink "java/util/ArrayList" 39 "java/util/ArrayList" "DEFAULTCAPACITY_EMPTY_ELEMENTDATA" "[Ljava/lang/Object;", .methodLink "java/util/ArrayList" 79 ⟨"java/lang/Math", "max", "(II)I"⟩, .static ⟨"java/lang/Math", "max", "(II)I"⟩, .initialized "java/lang/Math", .code ⟨"java/lang/Math", "max", "(II)I"⟩ prog_31_method_65_code 2 (some .int), .classLink "java/util/ArrayList" 7 "java/lang/Object"]
theorem d_AL_addB_0 : decode b_AL_addB 0 = .ok (.aload_n 0, 1) := by decide +kernel
theorem d_AL_addB_1 : decode b_AL_addB 1 = .ok (.dup, 1) := by decide +kernel
theorem d_AL_addB_2 : decode b_AL_addB 2 = .ok (.getfield 63, 3) := by decide +kernel
theorem d_AL_addB_5 : decode b_AL_addB 5 = .ok (.iconst 1, 1) := by decide +kernel
theorem d_AL_addB_6 : decode b_AL_addB 6 = .ok (.iadd, 1) := by decide +kernel
theorem d_AL_addB_7 : decode b_AL_addB 7 = .ok (.putfield 63, 3) := by decide +kernel
theorem d_AL_addB_10 : decode b_AL_addB 10 = .ok (.aload_n 0, 1) := by decide +kernel
theorem d_AL_addB_11 : decode b_AL_addB 11 = .ok (.aload_n 1, 1) := by decide +kernel
theorem d_AL_addB_12 : decode b_AL_addB 12 = .ok (.aload_n 0, 1) := by decide +kernel
theorem d_AL_addB_13 : decode b_AL_addB 13 = .ok (.getfield 9, 3) := by decide +kernel
theorem d_AL_addB_16 : decode b_AL_addB 16 = .ok (.aload_n 0, 1) := by decide +kernel
theorem d_AL_addB_17 : decode b_AL_addB 17 = .ok (.getfield 48, 3) := by decide +kernel
theorem d_AL_addB_20 : decode b_AL_addB 20 = .ok (.invokevirtual 131, 3) := by decide +kernel
theorem d_AL_addB_23 : decode b_AL_addB 23 = .ok (.iconst 1, 1) := by decide +kernel
theorem d_AL_addB_24 : decode b_AL_addB 24 = .ok (.ireturn, 1) := by decide +kernel
theorem in_AL_addB_AL : ∀ v ∈ u_ws R_AL T_AL 3, v ∈ w_AL_addB := by decide +kernel
set_option maxRecDepth 20000 in
theorem g_AL_addB_20 : GoodIn w_AL_addB (wsV "java/util/ArrayList" 131 "java/util/ArrayList" ⟨"java/util/ArrayList", "add", "(Ljava/lang/Object;[Ljava/lang/Object;I)V"⟩ w_AL_add3B) := goodIn_r _ [8, 9, 10, 11, 12, 13, 14, 15, 11, 16, 2, 3, 4, 7, 17, 18, 19, 20, 6, 21, 22, 23, 24, 25, 26] rfl (by decide +kernel)
set_option maxHeartbeats 4000000 in
set_option maxRecDepth 100000 in
theorem c_AL_addB (l : Launch) (dC : Nat → ClassId) (dI : Nat → Nat → Nat) (de : Nat) (fde : Nat → Value) (h0 : Nat) (md : Int32) (e0 : Nat) (sz : Nat) : Met l y_AL_addB w_AL_addB rm_AL_addB (va_Pc [.ref h0, .ref e0] (fun U => U.heap.size = sz ∧ va_P (dC, dI) classes [(h0, .inr (9, [.int md, .ref de, .int 0]))] U.heap ∧ va_K (dC, dI) classes [] U ∧ va_D (fun _ => True) [(h0, .inr (9, [.int md, .ref de, .int 0]))] ∧ va_Z "java/util/ArrayList" "DEFAULTCAPACITY_EMPTY_ELEMENTDATA" "[Ljava/lang/Object;" (.ref de) (va_A [(h0, .inr (9, [.int md, .ref de, .int 0]))] sz) U U.heap ∧ va_T (.object "java/lang/Object") de 0 fde (va_A [(h0, .inr (9, [.int md, .ref de, .int 0]))] sz) U U.heap ∧ va_O "java/lang/Integer" e0 (va_A [(h0, .inr (9, [.int md, .ref de, .int 0]))] sz) U U.heap ∧ va_Nw (.castable "java/lang/Integer" "java/lang/Object") U ∧ va_AO "java/lang/Object" U)) (va_Qi (fun r (_ : Unit) => r = 1) (fun _ t => ∃ m1 : Int32, ∃ ed : Nat, ∃ cB : ClassId, ∃ f1 : Nat → Option Nat, va_P (dC, dI) classes [(h0, .inr (9, [.int m1, .ref ed, .int 1])), (ed, .inl (cB, 10, .inr (.inr (.inr (.inr (f1))))))] t.heap ∧ va_K (dC, dI) classes [(cB, .object "java/lang/Object")] t ∧ va_D (va_A [(h0, .inr (9, [.int md, .ref de, .int 0]))] sz) [(h0, .inr (9, [.int m1, .ref ed, .int 1])), (ed, .inl (cB, 10, .inr (.inr (.inr (.inr (f1))))))] ∧ f1 0 = some e0) (va_A [(h0, .inr (9, [.int md, .ref de, .int 0]))] sz)) 1 10 (va_A [(h0, .inr (9, [.int md, .ref de, .int 0]))] sz) := by
  refine Met.ofW (cc := b_AL_addB) (maxL := 2) (ret := (some .boolean)) (by decide) rfl ?_
  intro p e s m args below meth c s₁ B hml hv
  obtain ⟨rfl, hsz, hP, hK, hD0, hE0, hE1, hE2, hE3, hE4⟩ := hv
  have hx := B.exec
  have hb := B.bytes
  have hr := B.returns
  have hts := atoms_spec (ws := w_AL_addB) B.pre
  have hown : s.vm.findClass "java/util/ArrayList" = some m.cls := findClass_of_methodNamed B.named
  have hlocks := B.notSynchronized
  subst hsz
  have hD := hD0.self (sz := s.heap.size)
  generalize hAe : va_A [(h0, .inr (9, [.int md, .ref de, .int 0]))] s.heap.size = A at hD hE0 hE1 hE2 hE3 hE4 ⊢
  have hA : ∀ q : Nat, s.heap.size ≤ q → A q := fun q h => by rw [← hAe]; exact Or.inr h
  have hS : va_S A s.heap s.heap [] := va_S.rf
  have hP : va_P (dC, dI) classes [(h0, .inr (9, [.int md, .ref de, .int 0]))] s.heap := hP
  have hl := lv_entry ([.ref h0, .ref e0]) (n := 2) (Nat.le_of_ble_eq_true rfl)
  rw [lg_entry_eq]
  generalize (lg_sl ([.ref h0, .ref e0]) ++ List.replicate (2 - (lg_sl ([.ref h0, .ref e0])).length) Slot.unset).toArray = ls at hl ⊢
  have hl : lv_has ls 2 [(0, .ref h0), (1, .ref e0)] := hl
  refine lv_aload_n hx hb d_AL_addB_0 rfl (lv_at hl 0 rfl) ?_
  refine lv_dup hx hb d_AL_addB_1 rfl ?_
  refine va_get (D := (dC, dI)) (ci := 9) (v := .int md) (C := R_AL) (T := T_AL) (N := 3) hx hb hts in_AL_addB_AL hown hK hP 0 rfl rfl 0 (by decide) (hts (.fieldLink "java/util/ArrayList" 63 "java/util/ArrayList" "modCount" "I") (List.mem_of_getElem? (i := 5) rfl)) (fun x9 h9 => u_same (hts (.sameField "java/util/ArrayList" "java/util/AbstractList" "modCount" "I") (List.mem_of_getElem? (i := 1) rfl)) x9 h9) rfl d_AL_addB_2 ?_
  refine lv_iconst (v := 1) hx hb d_AL_addB_5 (by decide) ?_
  refine lv_iadd hx hb d_AL_addB_6 ?_
  refine lv_topi (fun x1 ex1 => ?_)
  refine va_put (D := (dC, dI)) (ci := 9) (v := .int x1) (ty := .int) (C := R_AL) (T := T_AL) (N := 3) hx hb hts in_AL_addB_AL t_AL t_AL_ok n_AL hown hK hP hD hS 0 rfl rfl 0 (by decide) (hts (.fieldLink "java/util/ArrayList" 63 "java/util/ArrayList" "modCount" "I") (List.mem_of_getElem? (i := 5) rfl)) (fun x9 h9 => u_same (hts (.sameField "java/util/ArrayList" "java/util/AbstractList" "modCount" "I") (List.mem_of_getElem? (i := 1) rfl)) x9 h9) rfl (by decide +kernel) rfl rfl (Nat.le_of_ble_eq_true rfl) d_AL_addB_7 (fun H locs hP hD hS => ?_)
  have hP : va_P (dC, dI) classes [(h0, .inr (9, [.int x1, .ref de, .int 0]))] H := hP
  have hD : va_D A [(h0, .inr (9, [.int x1, .ref de, .int 0]))] := hD
  refine lv_aload_n hx hb d_AL_addB_10 rfl (lv_at hl 0 rfl) ?_
  refine lv_aload_n hx hb d_AL_addB_11 rfl (lv_at hl 1 rfl) ?_
  refine lv_aload_n hx hb d_AL_addB_12 rfl (lv_at hl 0 rfl) ?_
  refine va_get (D := (dC, dI)) (ci := 9) (v := .ref de) (C := R_AL) (T := T_AL) (N := 3) hx hb hts in_AL_addB_AL hown hK hP 0 rfl rfl 1 (by decide) (hts (.fieldLink "java/util/ArrayList" 9 "java/util/ArrayList" "elementData" "[Ljava/lang/Object;") (List.mem_of_getElem? (i := 6) rfl)) (fun _ h9 => h9) rfl d_AL_addB_13 ?_
  refine lv_aload_n hx hb d_AL_addB_16 rfl (lv_at hl 0 rfl) ?_
  refine va_get (D := (dC, dI)) (ci := 9) (v := .int 0) (C := R_AL) (T := T_AL) (N := 3) hx hb hts in_AL_addB_AL hown hK hP 0 rfl rfl 2 (by decide) (hts (.fieldLink "java/util/ArrayList" 48 "java/util/ArrayList" "size" "I") (List.mem_of_getElem? (i := 7) rfl)) (fun _ h9 => h9) rfl d_AL_addB_17 ?_
  have hPc : va_P (dC, dI) classes [(h0, .inr (9, [.int x1, .ref de, .int 0]))] _ := hP.sub (ws' := [(h0, .inr (9, [.int x1, .ref de, .int 0]))]) [0] rfl
  have hKc : va_K (dC, dI) classes [] s := hK.sub (tys' := []) [] rfl
  have hDc : va_D _ [(h0, .inr (9, [.int x1, .ref de, .int 0]))] := hD.sub (ws' := [(h0, .inr (9, [.int x1, .ref de, .int 0]))]) [0] (by decide) rfl
  have hFc := va_free (wc := [(h0, .inr (9, [.int x1, .ref de, .int 0]))]) hD hS hA [0] rfl
  refine va_callv (va_runV (As := [.ref e0, .ref de, .int 0]) (rest := []) ⟨hx, hb, hml, hown, hts⟩ (c_AL_add3B l dC dI de fde h0 x1 e0 H.size) (cwV 3 hts g_AL_addB_20 rfl rfl rfl (by decide +kernel) ⟨Nat.le_of_ble_eq_true rfl, Nat.le_of_ble_eq_true rfl⟩) ⟨fun a U g mk z => by obtain ⟨z0, z1, zP, zK, zD, zE0, zE1, zE2, zE3, zE4⟩ := z; exact ⟨z0, z1, zP, va_K.moved (u := U) (U := U.calling g mk a) (Vm.Alike.refl U.vm) zK, zD, zE0.moved (u := U) (U := U.calling g mk a) (Vm.Alike.refl U.vm), zE1.moved (u := U) (U := U.calling g mk a) (Vm.Alike.refl U.vm), zE2.moved (u := U) (U := U.calling g mk a) (Vm.Alike.refl U.vm), va_Nw.same rfl (u := U) (U := U.calling g mk a) rfl zE3, va_AO.moved (u := U) (U := U.calling g mk a) (Vm.Alike.refl U.vm) zE4⟩, va_recv hKc hPc (ci := 9) (q0 := 0) rfl rfl, fun U hU hW => ⟨rfl, by rw [hU], by rw [hU]; exact hPc, va_K.moved hW.alike hKc, hDc.weaken (fun _ _ _ _ => trivial), by (try dsimp only); rw [hU]; exact ((hE0.kept (fun a h1 h2 => hS.2.1 a h1 h2)).narrow hFc).moved hW.alike, by (try dsimp only); rw [hU]; exact ((hE1.kept (fun a h1 h2 => hS.2.1 a h1 h2)).narrow hFc).moved hW.alike, by (try dsimp only); rw [hU]; exact ((hE2.kept (fun a h1 h2 => hS.2.1 a h1 h2)).narrow hFc).moved hW.alike, va_Nw.warmC hW hE3, va_AO.moved hW.alike hE4⟩⟩ rfl rfl hl.1 rfl (lv_room (Nat.le_of_ble_eq_true rfl)) d_AL_addB_20 ⟨(Nat.le_of_ble_eq_true rfl), (Nat.le_of_ble_eq_true rfl)⟩) hS (fun q _ h => hFc q h) hFc (fun u t H1 locs ht hvm hr2 hB hz1 hk1 hS => ?_)
  obtain ⟨ed3, cB4, f5, hP1, hK1, hD1, hpr2_0⟩ := hB
  rw [ht] at hP1
  have hK1 := va_K.moved hvm.symm hK1
  obtain ⟨hP, hD⟩ := va_join (wr := []) (w1 := [(h0, .inr (9, [.int x1, .ref ed3, .int 1])), (ed3, .inl (cB4, 10, .inr (.inr (.inr (.inr (f5))))))]) hP hD [0] [] rfl rfl (by decide) (by decide) hk1 hFc hP1 hD1
  have hK := hK.app (hK1.sub (tys' := [(cB4, .object "java/lang/Object")]) [0] rfl)
  have hK : va_K (dC, dI) classes [(cB4, .object "java/lang/Object")] s := hK
  clear hPc hDc hKc hFc hP1 hD1 hK1 hk1
  generalize H1 = H at hP hS ⊢
  have hP : va_P (dC, dI) classes [(h0, .inr (9, [.int x1, .ref ed3, .int 1])), (ed3, .inl (cB4, 10, .inr (.inr (.inr (.inr (f5))))))] H := hP
  have hD : va_D A [(h0, .inr (9, [.int x1, .ref ed3, .int 1])), (ed3, .inl (cB4, 10, .inr (.inr (.inr (.inr (f5))))))] := hD
  refine W.widen (k := 1) (n := 10) (by omega) (by omega) ?_
  refine lv_iconst (v := 1) hx hb d_AL_addB_23 (by decide) ?_
  have hP9 : va_P (dC, dI) classes [(h0, .inr (9, [.int x1, .ref ed3, .int 1])), (ed3, .inl (cB4, 10, .inr (.inr (.inr (.inr (f5))))))] H := hP.sub (ws' := [(h0, .inr (9, [.int x1, .ref ed3, .int 1])), (ed3, .inl (cB4, 10, .inr (.inr (.inr (.inr (f5))))))]) [0, 1] rfl
  have hD9 := hD.sub (ws' := [(h0, .inr (9, [.int x1, .ref ed3, .int 1])), (ed3, .inl (cB4, 10, .inr (.inr (.inr (.inr (f5))))))]) [0, 1] (by decide) rfl
  have hK9 := hK.sub (tys' := [(cB4, .object "java/lang/Object")]) [0] rfl
  refine W.widen (k := 1) (n := 10) (by omega) (by omega) ?_
  exact W.zret hx hb hr rfl (fun t ht hW => ⟨⟨_, (), rfl, rfl, ⟨x1, ⟨ed3, ⟨cB4, ⟨f5, ⟨by rw [ht]; exact hP9, va_K.moved hW.alike hK9, hD9, hpr2_0⟩⟩⟩⟩⟩⟩, hS.F ht⟩) hS.2.2 d_AL_addB_24

abbrev rm_AL_add3K : Room := { frames := 0, cells := 0, slots := 0, locals := 0 }
abbrev b_AL_add3K : ByteArray := prog_50_method_24_code
def y_AL_add3K : MethodName := ⟨"java/util/ArrayList", "add", "(Ljava/lang/Object;[Ljava/lang/Object;I)V"⟩
def w_AL_add3K : List Cond := [.code ⟨"java/util/ArrayList", "add", "(Ljava/lang/Object;[Ljava/lang/Object;I)V"⟩ prog_50_method_24_code 4 none, .lays "java/util/ArrayList" "java/util/AbstractList" "modCount" "I", .lays "java/util/ArrayList" "java/util/ArrayList" "elementData" "[Ljava/lang/Object;", .lays "java/util/ArrayList" "java/util/ArrayList" "size" "I", .fieldLink "java/util/ArrayList" 48 "java/util/ArrayList" "size" "I"]
theorem d_AL_add3K_0 : decode b_AL_add3K 0 = .ok (.iload_n 3, 1) := by decide +kernel
theorem d_AL_add3K_1 : decode b_AL_add3K 1 = .ok (.aload_n 2, 1) := by decide +kernel
theorem d_AL_add3K_2 : decode b_AL_add3K 2 = .ok (.arraylength, 1) := by decide +kernel
theorem d_AL_add3K_3 : decode b_AL_add3K 3 = .ok (.if_icmp .ne 8, 3) := by decide +kernel
theorem d_AL_add3K_11 : decode b_AL_add3K 11 = .ok (.aload_n 2, 1) := by decide +kernel
theorem d_AL_add3K_12 : decode b_AL_add3K 12 = .ok (.iload_n 3, 1) := by decide +kernel
theorem d_AL_add3K_13 : decode b_AL_add3K 13 = .ok (.aload_n 1, 1) := by decide +kernel
theorem d_AL_add3K_14 : decode b_AL_add3K 14 = .ok (.aastore, 1) := by decide +kernel
theorem d_AL_add3K_15 : decode b_AL_add3K 15 = .ok (.aload_n 0, 1) := by decide +kernel
theorem d_AL_add3K_16 : decode b_AL_add3K 16 = .ok (.iload_n 3, 1) := by decide +kernel
theorem d_AL_add3K_17 : decode b_AL_add3K 17 = .ok (.iconst 1, 1) := by decide +kernel
theorem d_AL_add3K_18 : decode b_AL_add3K 18 = .ok (.iadd, 1) := by decide +kernel
theorem d_AL_add3K_19 : decode b_AL_add3K 19 = .ok (.putfield 48, 3) := by decide +kernel
theorem d_AL_add3K_22 : decode b_AL_add3K 22 = .ok (.return_, 1) := by decide +kernel
theorem in_AL_add3K_AL : ∀ v ∈ u_ws R_AL T_AL 3, v ∈ w_AL_add3K := by decide +kernel
set_option maxHeartbeats 4000000 in
set_option maxRecDepth 100000 in
theorem c_AL_add3K (l : Launch) (dC : Nat → ClassId) (dI : Nat → Nat → Nat) (h0 : Nat) (md : Int32) (ed : Nat) (n : Int32) (cB : ClassId) (f0 : Nat → Option Nat) (e0 : Nat) (k : Nat) (hk : k < 8) (hnk : n = nI k) (hfk : ∀ j, j < k → f0 j = some e0) (sz : Nat) : Met l y_AL_add3K w_AL_add3K rm_AL_add3K (va_Pc [.ref h0, .ref e0, .ref ed, .int n] (fun U => U.heap.size = sz ∧ va_P (dC, dI) classes [(h0, .inr (9, [.int md, .ref ed, .int n])), (ed, .inl (cB, 10, .inr (.inr (.inr (.inr (f0))))))] U.heap ∧ va_K (dC, dI) classes [(cB, .object "java/lang/Object")] U ∧ va_D (fun _ => True) [(h0, .inr (9, [.int md, .ref ed, .int n])), (ed, .inl (cB, 10, .inr (.inr (.inr (.inr (f0))))))] ∧ va_O "java/lang/Integer" e0 (va_A [(h0, .inr (9, [.int md, .ref ed, .int n])), (ed, .inl (cB, 10, .inr (.inr (.inr (.inr (f0))))))] sz) U U.heap ∧ va_Nw (.castable "java/lang/Integer" "java/lang/Object") U)) (va_Qv (fun (_ : Unit) => True) (fun _ t => ∃ n1 : Int32, ∃ f1 : Nat → Option Nat, va_P (dC, dI) classes [(h0, .inr (9, [.int md, .ref ed, .int n1])), (ed, .inl (cB, 10, .inr (.inr (.inr (.inr (f1))))))] t.heap ∧ va_K (dC, dI) classes [(cB, .object "java/lang/Object")] t ∧ va_D (va_A [(h0, .inr (9, [.int md, .ref ed, .int n])), (ed, .inl (cB, 10, .inr (.inr (.inr (.inr (f0))))))] sz) [(h0, .inr (9, [.int md, .ref ed, .int n1])), (ed, .inl (cB, 10, .inr (.inr (.inr (.inr (f1))))))] ∧ (∀ j, j < k + 1 → f1 j = some e0) ∧ n1 = nI (k + 1)) (va_A [(h0, .inr (9, [.int md, .ref ed, .int n])), (ed, .inl (cB, 10, .inr (.inr (.inr (.inr (f0))))))] sz)) 0 0 (va_A [(h0, .inr (9, [.int md, .ref ed, .int n])), (ed, .inl (cB, 10, .inr (.inr (.inr (.inr (f0))))))] sz) := by
  refine Met.ofW (cc := b_AL_add3K) (maxL := 4) (ret := none) (by decide) rfl ?_
  intro p e s m args below meth c s₁ B hml hv
  obtain ⟨rfl, hsz, hP, hK, hD0, hE0, hE1⟩ := hv
  have hx := B.exec
  have hb := B.bytes
  have hr := B.returns
  have hts := atoms_spec (ws := w_AL_add3K) B.pre
  have hown : s.vm.findClass "java/util/ArrayList" = some m.cls := findClass_of_methodNamed B.named
  have hlocks := B.notSynchronized
  subst hsz
  have hD := hD0.self (sz := s.heap.size)
  generalize hAe : va_A [(h0, .inr (9, [.int md, .ref ed, .int n])), (ed, .inl (cB, 10, .inr (.inr (.inr (.inr (f0))))))] s.heap.size = A at hD hE0 hE1 ⊢
  have hA : ∀ q : Nat, s.heap.size ≤ q → A q := fun q h => by rw [← hAe]; exact Or.inr h
  have hS : va_S A s.heap s.heap [] := va_S.rf
  have hP : va_P (dC, dI) classes [(h0, .inr (9, [.int md, .ref ed, .int n])), (ed, .inl (cB, 10, .inr (.inr (.inr (.inr (f0))))))] s.heap := hP
  have hl := lv_entry ([.ref h0, .ref e0, .ref ed, .int n]) (n := 4) (Nat.le_of_ble_eq_true rfl)
  rw [lg_entry_eq]
  generalize (lg_sl ([.ref h0, .ref e0, .ref ed, .int n]) ++ List.replicate (4 - (lg_sl ([.ref h0, .ref e0, .ref ed, .int n])).length) Slot.unset).toArray = ls at hl ⊢
  have hl : lv_has ls 4 [(0, .ref h0), (1, .ref e0), (2, .ref ed), (3, .int n)] := hl
  refine lv_iload_n hx hb d_AL_add3K_0 rfl (lv_at hl 3 rfl) ?_
  refine lv_aload_n hx hb d_AL_add3K_1 rfl (lv_at hl 2 rfl) ?_
  refine va_alen (v := 10) hx hb hK hP 1 0 rfl rfl (show Int32.ofNat 10 = 10 by decide) d_AL_add3K_2 ?_
  refine lv_icmp_ne (tgt := 11) hx hb d_AL_add3K_3 (by decide) (fun c_3 => ?_) (fun c_3 => ?_)
  · skip
    refine lv_aload_n hx hb d_AL_add3K_11 rfl (lv_at hl 2 rfl) ?_
    refine lv_iload_n hx hb d_AL_add3K_12 rfl (lv_at hl 3 rfl) ?_
    refine lv_aload_n hx hb d_AL_add3K_13 rfl (lv_at hl 1 rfl) ?_
    refine va_astqM (D := (dC, dI)) hx hb hK hP hD hS 1 0 rfl rfl (ry_any hE0 hS hE1) (by rw [hnk]; exact vp_in_nI (by omega) (by omega)) d_AL_add3K_14 (fun H locs hP hD hS => ?_)
    have hP : va_P (dC, dI) classes [(h0, .inr (9, [.int md, .ref ed, .int n])), (ed, .inl (cB, 10, .inr (.inr (.inr (.inr (va_up f0 (n : Int32).toNatClampNeg (some e0)))))))] H := hP
    have hD : va_D A [(h0, .inr (9, [.int md, .ref ed, .int n])), (ed, .inl (cB, 10, .inr (.inr (.inr (.inr (va_up f0 (n : Int32).toNatClampNeg (some e0)))))))] := hD
    obtain ⟨f1, ef1⟩ : ∃ z : Nat → Option Nat, z = va_up f0 (n : Int32).toNatClampNeg (some e0) := ⟨_, rfl⟩
    rw [← ef1] at hP hD
    refine lv_aload_n hx hb d_AL_add3K_15 rfl (lv_at hl 0 rfl) ?_
    refine lv_iload_n hx hb d_AL_add3K_16 rfl (lv_at hl 3 rfl) ?_
    refine lv_iconst (v := 1) hx hb d_AL_add3K_17 (by decide) ?_
    refine lv_iadd hx hb d_AL_add3K_18 ?_
    refine lv_topi (fun x2 ex2 => ?_)
    refine va_put (D := (dC, dI)) (ci := 9) (v := .int x2) (ty := .int) (C := R_AL) (T := T_AL) (N := 3) hx hb hts in_AL_add3K_AL t_AL t_AL_ok n_AL hown hK hP hD hS 0 rfl rfl 2 (by decide) (hts (.fieldLink "java/util/ArrayList" 48 "java/util/ArrayList" "size" "I") (List.mem_of_getElem? (i := 4) rfl)) (fun _ h9 => h9) rfl (by decide +kernel) rfl rfl (Nat.le_of_ble_eq_true rfl) d_AL_add3K_19 (fun H locs hP hD hS => ?_)
    have hP : va_P (dC, dI) classes [(h0, .inr (9, [.int md, .ref ed, .int x2])), (ed, .inl (cB, 10, .inr (.inr (.inr (.inr (f1))))))] H := hP
    have hD : va_D A [(h0, .inr (9, [.int md, .ref ed, .int x2])), (ed, .inl (cB, 10, .inr (.inr (.inr (.inr (f1))))))] := hD
    have hP9 : va_P (dC, dI) classes [(h0, .inr (9, [.int md, .ref ed, .int x2])), (ed, .inl (cB, 10, .inr (.inr (.inr (.inr (f1))))))] H := hP.sub (ws' := [(h0, .inr (9, [.int md, .ref ed, .int x2])), (ed, .inl (cB, 10, .inr (.inr (.inr (.inr (f1))))))]) [0, 1] rfl
    have hD9 := hD.sub (ws' := [(h0, .inr (9, [.int md, .ref ed, .int x2])), (ed, .inl (cB, 10, .inr (.inr (.inr (.inr (f1))))))]) [0, 1] (by decide) rfl
    have hK9 := hK.sub (tys' := [(cB, .object "java/lang/Object")]) [0] rfl
    have hall : ∀ j, j < k + 1 → f1 j = some e0 := by
      intro j hj
      rw [ef1, hnk, nI_clamp (by omega)]
      by_cases hz : j = k
      · rw [hz]; exact va_up_self _ _ _
      · rw [va_up_ne _ _ hz]; exact hfk j (by omega)
    refine W.widen (k := 0) (n := 0) (by omega) (by omega) ?_
    exact W.vret hx hb hr (fun t ht hW => ⟨⟨(), rfl, trivial, ⟨x2, ⟨f1, ⟨by rw [ht]; exact hP9, va_K.moved hW.alike hK9, hD9, hall, (by rw [ex2, hnk]; exact nI_1 k)⟩⟩⟩⟩, hS.F ht⟩) hS.2.2 d_AL_add3K_22
  · exact absurd c_3 (by rw [hnk]; exact fun z => absurd ((nI_eq (a := k) (b := 10) (by omega) (by omega)).mp z) (by omega))

abbrev rm_AL_addK : Room := { frames := 1, cells := 0, slots := 0, locals := 23 }
abbrev b_AL_addK : ByteArray := prog_50_method_25_code
def y_AL_addK : MethodName := ⟨"java/util/ArrayList", "add", "(Ljava/lang/Object;)Z"⟩
def w_AL_addK : List Cond := [.code ⟨"java/util/ArrayList", "add", "(Ljava/lang/Object;)Z"⟩ prog_50_method_25_code 2 (some .boolean), .sameField "java/util/ArrayList" "java/util/AbstractList" "modCount" "I", .lays "java/util/ArrayList" "java/util/AbstractList" "modCount" "I", .lays "java/util/ArrayList" "java/util/ArrayList" "elementData" "[Ljava/lang/Object;", .lays "java/util/ArrayList" "java/util/ArrayList" "size" "I", .fieldLink "java/util/ArrayList" 63 "java/util/ArrayList" "modCount" "I", .fieldLink "java/util/ArrayList" 9 "java/util/ArrayList" "elementData" "[Ljava/lang/Object;", .fieldLink "java/util/ArrayList" 48 "java/util/ArrayList" "size" "I", .methodLink "java/util/ArrayList" 131 ⟨"java/util/ArrayList", "add", "(Ljava/lang/Object;[Ljava/lang/Object;I)V"⟩, .instanceMethod ⟨"java/util/ArrayList", "add", "(Ljava/lang/Object;[Ljava/lang/Object;I)V"⟩, .selects "java/util/ArrayList" ⟨"java/util/ArrayList", "add", "(Ljava/lang/Object;[Ljava/lang/Object;I)V"⟩ ⟨"java/util/ArrayList", "add", "(Ljava/lang/Object;[Ljava/lang/Object;I)V"⟩, .initialized "java/util/ArrayList", .code ⟨"java/util/ArrayList", "add", "(Ljava/lang/Object;[Ljava/lang/Object;I)V"⟩ prog_50_method_24_code 4 none]
theorem d_AL_addK_0 : decode b_AL_addK 0 = .ok (.aload_n 0, 1) := by decide +kernel
theorem d_AL_addK_1 : decode b_AL_addK 1 = .ok (.dup, 1) := by decide +kernel
theorem d_AL_addK_2 : decode b_AL_addK 2 = .ok (.getfield 63, 3) := by decide +kernel
theorem d_AL_addK_5 : decode b_AL_addK 5 = .ok (.iconst 1, 1) := by decide +kernel
theorem d_AL_addK_6 : decode b_AL_addK 6 = .ok (.iadd, 1) := by decide +kernel
theorem d_AL_addK_7 : decode b_AL_addK 7 = .ok (.putfield 63, 3) := by decide +kernel
theorem d_AL_addK_10 : decode b_AL_addK 10 = .ok (.aload_n 0, 1) := by decide +kernel
theorem d_AL_addK_11 : decode b_AL_addK 11 = .ok (.aload_n 1, 1) := by decide +kernel
theorem d_AL_addK_12 : decode b_AL_addK 12 = .ok (.aload_n 0, 1) := by decide +kernel
theorem d_AL_addK_13 : decode b_AL_addK 13 = .ok (.getfield 9, 3) := by decide +kernel
theorem d_AL_addK_16 : decode b_AL_addK 16 = .ok (.aload_n 0, 1) := by decide +kernel
theorem d_AL_addK_17 : decode b_AL_addK 17 = .ok (.getfield 48, 3) := by decide +kernel
theorem d_AL_addK_20 : decode b_AL_addK 20 = .ok (.invokevirtual 131, 3) := by decide +kernel
theorem d_AL_addK_23 : decode b_AL_addK 23 = .ok (.iconst 1, 1) := by decide +kernel
theorem d_AL_addK_24 : decode b_AL_addK 24 = .ok (.ireturn, 1) := by decide +kernel
theorem in_AL_addK_AL : ∀ v ∈ u_ws R_AL T_AL 3, v ∈ w_AL_addK := by decide +kernel
set_option maxRecDepth 20000 in
theorem g_AL_addK_20 : GoodIn w_AL_addK (wsV "java/util/ArrayList" 131 "java/util/ArrayList" ⟨"java/util/ArrayList", "add", "(Ljava/lang/Object;[Ljava/lang/Object;I)V"⟩ w_AL_add3K) := goodIn_r _ [8, 9, 10, 11, 12, 2, 3, 4, 7] rfl (by decide +kernel)
set_option maxHeartbeats 4000000 in
set_option maxRecDepth 100000 in
theorem c_AL_addK (l : Launch) (dC : Nat → ClassId) (dI : Nat → Nat → Nat) (h0 : Nat) (md : Int32) (ed : Nat) (n : Int32) (cB : ClassId) (f0 : Nat → Option Nat) (e0 : Nat) (k : Nat) (hk : k < 8) (hnk : n = nI k) (hfk : ∀ j, j < k → f0 j = some e0) (sz : Nat) : Met l y_AL_addK w_AL_addK rm_AL_addK (va_Pc [.ref h0, .ref e0] (fun U => U.heap.size = sz ∧ va_P (dC, dI) classes [(h0, .inr (9, [.int md, .ref ed, .int n])), (ed, .inl (cB, 10, .inr (.inr (.inr (.inr (f0))))))] U.heap ∧ va_K (dC, dI) classes [(cB, .object "java/lang/Object")] U ∧ va_D (fun _ => True) [(h0, .inr (9, [.int md, .ref ed, .int n])), (ed, .inl (cB, 10, .inr (.inr (.inr (.inr (f0))))))] ∧ va_O "java/lang/Integer" e0 (va_A [(h0, .inr (9, [.int md, .ref ed, .int n])), (ed, .inl (cB, 10, .inr (.inr (.inr (.inr (f0))))))] sz) U U.heap ∧ va_Nw (.castable "java/lang/Integer" "java/lang/Object") U)) (va_Qi (fun r (_ : Unit) => r = 1) (fun _ t => ∃ m1 : Int32, ∃ n1 : Int32, ∃ f1 : Nat → Option Nat, va_P (dC, dI) classes [(h0, .inr (9, [.int m1, .ref ed, .int n1])), (ed, .inl (cB, 10, .inr (.inr (.inr (.inr (f1))))))] t.heap ∧ va_K (dC, dI) classes [(cB, .object "java/lang/Object")] t ∧ va_D (va_A [(h0, .inr (9, [.int md, .ref ed, .int n])), (ed, .inl (cB, 10, .inr (.inr (.inr (.inr (f0))))))] sz) [(h0, .inr (9, [.int m1, .ref ed, .int n1])), (ed, .inl (cB, 10, .inr (.inr (.inr (.inr (f1))))))] ∧ (∀ j, j < k + 1 → f1 j = some e0) ∧ n1 = nI (k + 1)) (va_A [(h0, .inr (9, [.int md, .ref ed, .int n])), (ed, .inl (cB, 10, .inr (.inr (.inr (.inr (f0))))))] sz)) 0 0 (va_A [(h0, .inr (9, [.int md, .ref ed, .int n])), (ed, .inl (cB, 10, .inr (.inr (.inr (.inr (f0))))))] sz) := by
  refine Met.ofW (cc := b_AL_addK) (maxL := 2) (ret := (some .boolean)) (by decide) rfl ?_
  intro p e s m args below meth c s₁ B hml hv
  obtain ⟨rfl, hsz, hP, hK, hD0, hE0, hE1⟩ := hv
  have hx := B.exec
  have hb := B.bytes
  have hr := B.returns
  have hts := atoms_spec (ws := w_AL_addK) B.pre
  have hown : s.vm.findClass "java/util/ArrayList" = some m.cls := findClass_of_methodNamed B.named
  have hlocks := B.notSynchronized
  subst hsz
  have hD := hD0.self (sz := s.heap.size)
  generalize hAe : va_A [(h0, .inr (9, [.int md, .ref ed, .int n])), (ed, .inl (cB, 10, .inr (.inr (.inr (.inr (f0))))))] s.heap.size = A at hD hE0 hE1 ⊢
  have hA : ∀ q : Nat, s.heap.size ≤ q → A q := fun q h => by rw [← hAe]; exact Or.inr h
  have hS : va_S A s.heap s.heap [] := va_S.rf
  have hP : va_P (dC, dI) classes [(h0, .inr (9, [.int md, .ref ed, .int n])), (ed, .inl (cB, 10, .inr (.inr (.inr (.inr (f0))))))] s.heap := hP
  have hl := lv_entry ([.ref h0, .ref e0]) (n := 2) (Nat.le_of_ble_eq_true rfl)
  rw [lg_entry_eq]
  generalize (lg_sl ([.ref h0, .ref e0]) ++ List.replicate (2 - (lg_sl ([.ref h0, .ref e0])).length) Slot.unset).toArray = ls at hl ⊢
  have hl : lv_has ls 2 [(0, .ref h0), (1, .ref e0)] := hl
  refine lv_aload_n hx hb d_AL_addK_0 rfl (lv_at hl 0 rfl) ?_
  refine lv_dup hx hb d_AL_addK_1 rfl ?_
  refine va_get (D := (dC, dI)) (ci := 9) (v := .int md) (C := R_AL) (T := T_AL) (N := 3) hx hb hts in_AL_addK_AL hown hK hP 0 rfl rfl 0 (by decide) (hts (.fieldLink "java/util/ArrayList" 63 "java/util/ArrayList" "modCount" "I") (List.mem_of_getElem? (i := 5) rfl)) (fun x9 h9 => u_same (hts (.sameField "java/util/ArrayList" "java/util/AbstractList" "modCount" "I") (List.mem_of_getElem? (i := 1) rfl)) x9 h9) rfl d_AL_addK_2 ?_
  refine lv_iconst (v := 1) hx hb d_AL_addK_5 (by decide) ?_
  refine lv_iadd hx hb d_AL_addK_6 ?_
  refine lv_topi (fun x1 ex1 => ?_)
  refine va_put (D := (dC, dI)) (ci := 9) (v := .int x1) (ty := .int) (C := R_AL) (T := T_AL) (N := 3) hx hb hts in_AL_addK_AL t_AL t_AL_ok n_AL hown hK hP hD hS 0 rfl rfl 0 (by decide) (hts (.fieldLink "java/util/ArrayList" 63 "java/util/ArrayList" "modCount" "I") (List.mem_of_getElem? (i := 5) rfl)) (fun x9 h9 => u_same (hts (.sameField "java/util/ArrayList" "java/util/AbstractList" "modCount" "I") (List.mem_of_getElem? (i := 1) rfl)) x9 h9) rfl (by decide +kernel) rfl rfl (Nat.le_of_ble_eq_true rfl) d_AL_addK_7 (fun H locs hP hD hS => ?_)
  have hP : va_P (dC, dI) classes [(h0, .inr (9, [.int x1, .ref ed, .int n])), (ed, .inl (cB, 10, .inr (.inr (.inr (.inr (f0))))))] H := hP
  have hD : va_D A [(h0, .inr (9, [.int x1, .ref ed, .int n])), (ed, .inl (cB, 10, .inr (.inr (.inr (.inr (f0))))))] := hD
  refine lv_aload_n hx hb d_AL_addK_10 rfl (lv_at hl 0 rfl) ?_
  refine lv_aload_n hx hb d_AL_addK_11 rfl (lv_at hl 1 rfl) ?_
  refine lv_aload_n hx hb d_AL_addK_12 rfl (lv_at hl 0 rfl) ?_
  refine va_get (D := (dC, dI)) (ci := 9) (v := .ref ed) (C := R_AL) (T := T_AL) (N := 3) hx hb hts in_AL_addK_AL hown hK hP 0 rfl rfl 1 (by decide) (hts (.fieldLink "java/util/ArrayList" 9 "java/util/ArrayList" "elementData" "[Ljava/lang/Object;") (List.mem_of_getElem? (i := 6) rfl)) (fun _ h9 => h9) rfl d_AL_addK_13 ?_
  refine lv_aload_n hx hb d_AL_addK_16 rfl (lv_at hl 0 rfl) ?_
  refine va_get (D := (dC, dI)) (ci := 9) (v := .int n) (C := R_AL) (T := T_AL) (N := 3) hx hb hts in_AL_addK_AL hown hK hP 0 rfl rfl 2 (by decide) (hts (.fieldLink "java/util/ArrayList" 48 "java/util/ArrayList" "size" "I") (List.mem_of_getElem? (i := 7) rfl)) (fun _ h9 => h9) rfl d_AL_addK_17 ?_
  have hPc : va_P (dC, dI) classes [(h0, .inr (9, [.int x1, .ref ed, .int n])), (ed, .inl (cB, 10, .inr (.inr (.inr (.inr (f0))))))] _ := hP.sub (ws' := [(h0, .inr (9, [.int x1, .ref ed, .int n])), (ed, .inl (cB, 10, .inr (.inr (.inr (.inr (f0))))))]) [0, 1] rfl
  have hKc : va_K (dC, dI) classes [(cB, .object "java/lang/Object")] s := hK.sub (tys' := [(cB, .object "java/lang/Object")]) [0] rfl
  have hDc : va_D _ [(h0, .inr (9, [.int x1, .ref ed, .int n])), (ed, .inl (cB, 10, .inr (.inr (.inr (.inr (f0))))))] := hD.sub (ws' := [(h0, .inr (9, [.int x1, .ref ed, .int n])), (ed, .inl (cB, 10, .inr (.inr (.inr (.inr (f0))))))]) [0, 1] (by decide) rfl
  have hFc := va_free (wc := [(h0, .inr (9, [.int x1, .ref ed, .int n])), (ed, .inl (cB, 10, .inr (.inr (.inr (.inr (f0))))))]) hD hS hA [0, 1] rfl
  refine va_callv (va_runV (As := [.ref e0, .ref ed, .int n]) (rest := []) ⟨hx, hb, hml, hown, hts⟩ (c_AL_add3K l dC dI h0 x1 ed n cB f0 e0 k hk hnk hfk H.size) (cwV 3 hts g_AL_addK_20 rfl rfl rfl (by decide +kernel) ⟨Nat.le_of_ble_eq_true rfl, Nat.le_of_ble_eq_true rfl⟩) ⟨fun a U g mk z => by obtain ⟨z0, z1, zP, zK, zD, zE0, zE1⟩ := z; exact ⟨z0, z1, zP, va_K.moved (u := U) (U := U.calling g mk a) (Vm.Alike.refl U.vm) zK, zD, zE0.moved (u := U) (U := U.calling g mk a) (Vm.Alike.refl U.vm), va_Nw.same rfl (u := U) (U := U.calling g mk a) rfl zE1⟩, va_recv hKc hPc (ci := 9) (q0 := 0) rfl rfl, fun U hU hW => ⟨rfl, by rw [hU], by rw [hU]; exact hPc, va_K.moved hW.alike hKc, hDc.weaken (fun _ _ _ _ => trivial), by (try dsimp only); rw [hU]; exact ((hE0.kept (fun a h1 h2 => hS.2.1 a h1 h2)).narrow hFc).moved hW.alike, va_Nw.warmC hW hE1⟩⟩ rfl rfl hl.1 rfl (lv_room (Nat.le_of_ble_eq_true rfl)) d_AL_addK_20 ⟨(Nat.le_of_ble_eq_true rfl), (Nat.le_of_ble_eq_true rfl)⟩) hS (fun q _ h => hFc q h) hFc (fun u t H1 locs ht hvm hr2 hB hz1 hk1 hS => ?_)
  obtain ⟨n3, f4, hP1, hK1, hD1, hpr2_0, hpr2_1⟩ := hB
  rw [ht] at hP1
  have hK1 := va_K.moved hvm.symm hK1
  obtain ⟨hP, hD⟩ := va_join (wr := []) (w1 := [(h0, .inr (9, [.int x1, .ref ed, .int n3])), (ed, .inl (cB, 10, .inr (.inr (.inr (.inr (f4))))))]) hP hD [0, 1] [] rfl rfl (by decide) (by decide) hk1 hFc hP1 hD1
  clear hPc hDc hKc hFc hP1 hD1 hK1 hk1
  generalize H1 = H at hP hS ⊢
  have hP : va_P (dC, dI) classes [(h0, .inr (9, [.int x1, .ref ed, .int n3])), (ed, .inl (cB, 10, .inr (.inr (.inr (.inr (f4))))))] H := hP
  have hD : va_D A [(h0, .inr (9, [.int x1, .ref ed, .int n3])), (ed, .inl (cB, 10, .inr (.inr (.inr (.inr (f4))))))] := hD
  refine W.widen (k := 0) (n := 0) (by omega) (by omega) ?_
  refine lv_iconst (v := 1) hx hb d_AL_addK_23 (by decide) ?_
  have hP9 : va_P (dC, dI) classes [(h0, .inr (9, [.int x1, .ref ed, .int n3])), (ed, .inl (cB, 10, .inr (.inr (.inr (.inr (f4))))))] H := hP.sub (ws' := [(h0, .inr (9, [.int x1, .ref ed, .int n3])), (ed, .inl (cB, 10, .inr (.inr (.inr (.inr (f4))))))]) [0, 1] rfl
  have hD9 := hD.sub (ws' := [(h0, .inr (9, [.int x1, .ref ed, .int n3])), (ed, .inl (cB, 10, .inr (.inr (.inr (.inr (f4))))))]) [0, 1] (by decide) rfl
  have hK9 := hK.sub (tys' := [(cB, .object "java/lang/Object")]) [0] rfl
  refine W.widen (k := 0) (n := 0) (by omega) (by omega) ?_
  exact W.zret hx hb hr rfl (fun t ht hW => ⟨⟨_, (), rfl, rfl, ⟨x1, ⟨n3, ⟨f4, ⟨by rw [ht]; exact hP9, va_K.moved hW.alike hK9, hD9, hpr2_0, hpr2_1⟩⟩⟩⟩⟩, hS.F ht⟩) hS.2.2 d_AL_addK_24

abbrev rm_OB_checkIndex : Room := { frames := 1, cells := 0, slots := 0, locals := 22 }
abbrev b_OB_checkIndex : ByteArray := prog_73_method_17_code
def y_OB_checkIndex : MethodName := ⟨"java/util/Objects", "checkIndex", "(II)I"⟩
def w_OB_checkIndex : List Cond := [.code ⟨"java/util/Objects", "checkIndex", "(II)I"⟩ prog_73_method_17_code 2 (some .int), .methodLink "java/util/Objects" 105 ⟨"jdk/internal/util/Preconditions", "checkIndex", "(IILjava/util/function/BiFunction;)I"⟩, .static ⟨"jdk/internal/util/Preconditions", "checkIndex", "(IILjava/util/function/BiFunction;)I"⟩, .initialized "jdk/internal/util/Preconditions", .code ⟨"jdk/internal/util/Preconditions", "checkIndex", "(IILjava/util/function/BiFunction;)I"⟩ prog_81_method_11_code 3 (some .int)]
theorem d_OB_checkIndex_0 : decode b_OB_checkIndex 0 = .ok (.iload_n 0, 1) := by decide +kernel
theorem d_OB_checkIndex_1 : decode b_OB_checkIndex 1 = .ok (.iload_n 1, 1) := by decide +kernel
theorem d_OB_checkIndex_2 : decode b_OB_checkIndex 2 = .ok (.aconst_null, 1) := by decide +kernel
theorem d_OB_checkIndex_3 : decode b_OB_checkIndex 3 = .ok (.invokestatic 105, 3) := by decide +kernel
theorem d_OB_checkIndex_6 : decode b_OB_checkIndex 6 = .ok (.ireturn, 1) := by decide +kernel
set_option maxRecDepth 20000 in
theorem g_OB_checkIndex_3 : GoodIn w_OB_checkIndex (va_wsS "java/util/Objects" 105 ⟨"jdk/internal/util/Preconditions", "checkIndex", "(IILjava/util/function/BiFunction;)I"⟩ w_PC_checkN) := goodIn_r _ [1, 2, 3, 4] rfl (by decide +kernel)
set_option maxHeartbeats 4000000 in
set_option maxRecDepth 100000 in
theorem c_OB_checkIndex (l : Launch)  : Met l y_OB_checkIndex w_OB_checkIndex rm_OB_checkIndex (va_Pc [.int 0, .int 1] (fun U => True)) (vp_Si (fun r => r = 0)) 0 0 (fun _ => False) := by
  refine Met.ofW (cc := b_OB_checkIndex) (maxL := 2) (ret := (some .int)) (by decide) rfl ?_
  intro p e s m args below meth c s₁ B hml hv
  obtain ⟨rfl, -⟩ := hv
  have hx := B.exec
  have hb := B.bytes
  have hr := B.returns
  have hts := atoms_spec (ws := w_OB_checkIndex) B.pre
  have hown : s.vm.findClass "java/util/Objects" = some m.cls := findClass_of_methodNamed B.named
  have hlocks := B.notSynchronized
  have hl := lv_entry ([.int 0, .int 1]) (n := 2) (Nat.le_of_ble_eq_true rfl)
  rw [lg_entry_eq]
  generalize (lg_sl ([.int 0, .int 1]) ++ List.replicate (2 - (lg_sl ([.int 0, .int 1])).length) Slot.unset).toArray = ls at hl ⊢
  have hl : lv_has ls 2 [(0, .int 0), (1, .int 1)] := hl
  refine lv_iload_n hx hb d_OB_checkIndex_0 rfl (lv_at hl 0 rfl) ?_
  refine lv_iload_n hx hb d_OB_checkIndex_1 rfl (lv_at hl 1 rfl) ?_
  refine lv_null hx hb d_OB_checkIndex_2 ?_
  refine vp_callSi (W.runS (As := [.int 0, .int 1, .null]) (rest := []) ⟨hx, hb, hml, hown, hts⟩ (c_PC_checkN l 0 1 (by decide) (by decide)) (va_cwS 3 hts g_OB_checkIndex_3 rfl rfl rfl (by decide +kernel) ⟨Nat.le_of_ble_eq_true rfl, Nat.le_of_ble_eq_true rfl⟩) ⟨fun a U g mk z => z, fun U hU hW => ⟨rfl, trivial⟩⟩ rfl rfl hl.1 rfl (lv_room (Nat.le_of_ble_eq_true rfl)) d_OB_checkIndex_3 ⟨(Nat.le_of_ble_eq_true rfl), (Nat.le_of_ble_eq_true rfl)⟩) (fun r1 hr1 => ?_)
  replace hr1 := hr1.symm; subst hr1
  exact W.iret hx hb hr (fun t ht hW => ⟨_, rfl, rfl, ht⟩) (fun _ h => by cases h) d_OB_checkIndex_6

abbrev rm_AL_elementData : Room := { frames := 0, cells := 0, slots := 0, locals := 0 }
abbrev b_AL_elementData : ByteArray := prog_50_method_18_code
def y_AL_elementData : MethodName := ⟨"java/util/ArrayList", "elementData", "(I)Ljava/lang/Object;"⟩
def w_AL_elementData : List Cond := [.code ⟨"java/util/ArrayList", "elementData", "(I)Ljava/lang/Object;"⟩ prog_50_method_18_code 2 (some (.object "java/lang/Object")), .lays "java/util/ArrayList" "java/util/AbstractList" "modCount" "I", .lays "java/util/ArrayList" "java/util/ArrayList" "elementData" "[Ljava/lang/Object;", .lays "java/util/ArrayList" "java/util/ArrayList" "size" "I", .fieldLink "java/util/ArrayList" 9 "java/util/ArrayList" "elementData" "[Ljava/lang/Object;"]
theorem d_AL_elementData_0 : decode b_AL_elementData 0 = .ok (.aload_n 0, 1) := by decide +kernel
theorem d_AL_elementData_1 : decode b_AL_elementData 1 = .ok (.getfield 9, 3) := by decide +kernel
theorem d_AL_elementData_4 : decode b_AL_elementData 4 = .ok (.iload_n 1, 1) := by decide +kernel
theorem d_AL_elementData_5 : decode b_AL_elementData 5 = .ok (.aaload, 1) := by decide +kernel
theorem d_AL_elementData_6 : decode b_AL_elementData 6 = .ok (.areturn, 1) := by decide +kernel
theorem in_AL_elementData_AL : ∀ v ∈ u_ws R_AL T_AL 3, v ∈ w_AL_elementData := by decide +kernel
set_option maxHeartbeats 4000000 in
set_option maxRecDepth 100000 in
theorem c_AL_elementData (l : Launch) (dC : Nat → ClassId) (dI : Nat → Nat → Nat) (h0 : Nat) (md : Int32) (ed : Nat) (cB : ClassId) (f0 : Nat → Option Nat) (e0 : Nat) (hf : f0 0 = some e0) : Met l y_AL_elementData w_AL_elementData rm_AL_elementData (va_Pc [.ref h0, .int 0] (fun U => va_P (dC, dI) classes [(h0, .inr (9, [.int md, .ref ed, .int 1])), (ed, .inl (cB, 10, .inr (.inr (.inr (.inr (f0))))))] U.heap ∧ va_K (dC, dI) classes [(cB, .object "java/lang/Object")] U)) (va_Sr (fun r => r = e0) Value.ref) 0 0 (fun _ => False) := by
  refine Met.ofW (cc := b_AL_elementData) (maxL := 2) (ret := (some (.object "java/lang/Object"))) (by decide) rfl ?_
  intro p e s m args below meth c s₁ B hml hv
  obtain ⟨rfl, hP, hK⟩ := hv
  have hx := B.exec
  have hb := B.bytes
  have hr := B.returns
  have hts := atoms_spec (ws := w_AL_elementData) B.pre
  have hown : s.vm.findClass "java/util/ArrayList" = some m.cls := findClass_of_methodNamed B.named
  have hlocks := B.notSynchronized
  have hP : va_P (dC, dI) classes [(h0, .inr (9, [.int md, .ref ed, .int 1])), (ed, .inl (cB, 10, .inr (.inr (.inr (.inr (f0))))))] s.heap := hP
  have hl := lv_entry ([.ref h0, .int 0]) (n := 2) (Nat.le_of_ble_eq_true rfl)
  rw [lg_entry_eq]
  generalize (lg_sl ([.ref h0, .int 0]) ++ List.replicate (2 - (lg_sl ([.ref h0, .int 0])).length) Slot.unset).toArray = ls at hl ⊢
  have hl : lv_has ls 2 [(0, .ref h0), (1, .int 0)] := hl
  refine lv_aload_n hx hb d_AL_elementData_0 rfl (lv_at hl 0 rfl) ?_
  refine va_get (D := (dC, dI)) (ci := 9) (v := .ref ed) (C := R_AL) (T := T_AL) (N := 3) hx hb hts in_AL_elementData_AL hown hK hP 0 rfl rfl 1 (by decide) (hts (.fieldLink "java/util/ArrayList" 9 "java/util/ArrayList" "elementData" "[Ljava/lang/Object;") (List.mem_of_getElem? (i := 4) rfl)) (fun _ h9 => h9) rfl d_AL_elementData_1 ?_
  refine lv_iload_n hx hb d_AL_elementData_4 rfl (lv_at hl 1 rfl) ?_
  refine va_aldq hx hb hK hP 1 0 rfl rfl (by unfold vp_in; decide) d_AL_elementData_5 ?_
  have hav : f0 (0 : Int32).toNatClampNeg = some e0 := by rw [show (0 : Int32).toNatClampNeg = 0 by decide, hf]
  rw [hav]
  refine W.eq (g2 := F0 m 6 ls [.ref e0]) rfl ?_
  exact W.aret hx hb hr (Or.inl ⟨_, rfl⟩) (Or.inr ⟨_, rfl⟩) (fun t ht hW => ⟨_, rfl, rfl, ht⟩) (fun _ h => by cases h) d_AL_elementData_6

abbrev rm_AL_get : Room := { frames := 2, cells := 0, slots := 0, locals := 43 }
abbrev b_AL_get : ByteArray := prog_50_method_20_code
def y_AL_get : MethodName := ⟨"java/util/ArrayList", "get", "(I)Ljava/lang/Object;"⟩
def w_AL_get : List Cond := [.code ⟨"java/util/ArrayList", "get", "(I)Ljava/lang/Object;"⟩ prog_50_method_20_code 2 (some (.object "java/lang/Object")), .lays "java/util/ArrayList" "java/util/AbstractList" "modCount" "I", .lays "java/util/ArrayList" "java/util/ArrayList" "elementData" "[Ljava/lang/Object;", .lays "java/util/ArrayList" "java/util/ArrayList" "size" "I", .fieldLink "java/util/ArrayList" 48 "java/util/ArrayList" "size" "I", .methodLink "java/util/ArrayList" 118 ⟨"java/util/Objects", "checkIndex", "(II)I"⟩, .static ⟨"java/util/Objects", "checkIndex", "(II)I"⟩, .initialized "java/util/Objects", .code ⟨"java/util/Objects", "checkIndex", "(II)I"⟩ prog_73_method_17_code 2 (some .int), .methodLink "java/util/Objects" 105 ⟨"jdk/internal/util/Preconditions", "checkIndex", "(IILjava/util/function/BiFunction;)I"⟩, .static ⟨"jdk/internal/util/Preconditions", "checkIndex", "(IILjava/util/function/BiFunction;)I"⟩, .initialized "jdk/internal/util/Preconditions", .code ⟨"jdk/internal/util/Preconditions", "checkIndex", "(IILjava/util/function/BiFunction;)I"⟩ prog_81_method_11_code 3 (some .int), .methodLink "java/util/ArrayList" 123 ⟨"java/util/ArrayList", "elementData", "(I)Ljava/lang/Object;"⟩, .instanceMethod ⟨"java/util/ArrayList", "elementData", "(I)Ljava/lang/Object;"⟩, .selects "java/util/ArrayList" ⟨"java/util/ArrayList", "elementData", "(I)Ljava/lang/Object;"⟩ ⟨"java/util/ArrayList", "elementData", "(I)Ljava/lang/Object;"⟩, .initialized "java/util/ArrayList", .code ⟨"java/util/ArrayList", "elementData", "(I)Ljava/lang/Object;"⟩ prog_50_method_18_code 2 (some (.object "java/lang/Object")), .fieldLink "java/util/ArrayList" 9 "java/util/ArrayList" "elementData" "[Ljava/lang/Object;"]
theorem d_AL_get_0 : decode b_AL_get 0 = .ok (.iload_n 1, 1) := by decide +kernel
theorem d_AL_get_1 : decode b_AL_get 1 = .ok (.aload_n 0, 1) := by decide +kernel
theorem d_AL_get_2 : decode b_AL_get 2 = .ok (.getfield 48, 3) := by decide +kernel
theorem d_AL_get_5 : decode b_AL_get 5 = .ok (.invokestatic 118, 3) := by decide +kernel
theorem d_AL_get_8 : decode b_AL_get 8 = .ok (.pop, 1) := by decide +kernel
theorem d_AL_get_9 : decode b_AL_get 9 = .ok (.aload_n 0, 1) := by decide +kernel
theorem d_AL_get_10 : decode b_AL_get 10 = .ok (.iload_n 1, 1) := by decide +kernel
theorem d_AL_get_11 : decode b_AL_get 11 = .ok (.invokevirtual 123, 3) := by decide +kernel
theorem d_AL_get_14 : decode b_AL_get 14 = .ok (.areturn, 1) := by decide +kernel
theorem in_AL_get_AL : ∀ v ∈ u_ws R_AL T_AL 3, v ∈ w_AL_get := by decide +kernel
set_option maxRecDepth 20000 in
theorem g_AL_get_5 : GoodIn w_AL_get (va_wsS "java/util/ArrayList" 118 ⟨"java/util/Objects", "checkIndex", "(II)I"⟩ w_OB_checkIndex) := goodIn_r _ [5, 6, 7, 8, 9, 10, 11, 12] rfl (by decide +kernel)
set_option maxRecDepth 20000 in
theorem g_AL_get_11 : GoodIn w_AL_get (wsV "java/util/ArrayList" 123 "java/util/ArrayList" ⟨"java/util/ArrayList", "elementData", "(I)Ljava/lang/Object;"⟩ w_AL_elementData) := goodIn_r _ [13, 14, 15, 16, 17, 1, 2, 3, 18] rfl (by decide +kernel)
set_option maxHeartbeats 4000000 in
set_option maxRecDepth 100000 in
theorem c_AL_get (l : Launch) (dC : Nat → ClassId) (dI : Nat → Nat → Nat) (h0 : Nat) (md : Int32) (ed : Nat) (cB : ClassId) (f0 : Nat → Option Nat) (e0 : Nat) (hf : f0 0 = some e0) : Met l y_AL_get w_AL_get rm_AL_get (va_Pc [.ref h0, .int 0] (fun U => va_P (dC, dI) classes [(h0, .inr (9, [.int md, .ref ed, .int 1])), (ed, .inl (cB, 10, .inr (.inr (.inr (.inr (f0))))))] U.heap ∧ va_K (dC, dI) classes [(cB, .object "java/lang/Object")] U)) (va_Sr (fun r => r = e0) Value.ref) 0 0 (fun _ => False) := by
  refine Met.ofW (cc := b_AL_get) (maxL := 2) (ret := (some (.object "java/lang/Object"))) (by decide) rfl ?_
  intro p e s m args below meth c s₁ B hml hv
  obtain ⟨rfl, hP, hK⟩ := hv
  have hx := B.exec
  have hb := B.bytes
  have hr := B.returns
  have hts := atoms_spec (ws := w_AL_get) B.pre
  have hown : s.vm.findClass "java/util/ArrayList" = some m.cls := findClass_of_methodNamed B.named
  have hlocks := B.notSynchronized
  have hP : va_P (dC, dI) classes [(h0, .inr (9, [.int md, .ref ed, .int 1])), (ed, .inl (cB, 10, .inr (.inr (.inr (.inr (f0))))))] s.heap := hP
  have hl := lv_entry ([.ref h0, .int 0]) (n := 2) (Nat.le_of_ble_eq_true rfl)
  rw [lg_entry_eq]
  generalize (lg_sl ([.ref h0, .int 0]) ++ List.replicate (2 - (lg_sl ([.ref h0, .int 0])).length) Slot.unset).toArray = ls at hl ⊢
  have hl : lv_has ls 2 [(0, .ref h0), (1, .int 0)] := hl
  refine lv_iload_n hx hb d_AL_get_0 rfl (lv_at hl 1 rfl) ?_
  refine lv_aload_n hx hb d_AL_get_1 rfl (lv_at hl 0 rfl) ?_
  refine va_get (D := (dC, dI)) (ci := 9) (v := .int 1) (C := R_AL) (T := T_AL) (N := 3) hx hb hts in_AL_get_AL hown hK hP 0 rfl rfl 2 (by decide) (hts (.fieldLink "java/util/ArrayList" 48 "java/util/ArrayList" "size" "I") (List.mem_of_getElem? (i := 4) rfl)) (fun _ h9 => h9) rfl d_AL_get_2 ?_
  refine vp_callSi (W.runS (As := [.int 0, .int 1]) (rest := []) ⟨hx, hb, hml, hown, hts⟩ (c_OB_checkIndex l ) (va_cwS 2 hts g_AL_get_5 rfl rfl rfl (by decide +kernel) ⟨Nat.le_of_ble_eq_true rfl, Nat.le_of_ble_eq_true rfl⟩) ⟨fun a U g mk z => z, fun U hU hW => ⟨rfl, trivial⟩⟩ rfl rfl hl.1 rfl (lv_room (Nat.le_of_ble_eq_true rfl)) d_AL_get_5 ⟨(Nat.le_of_ble_eq_true rfl), (Nat.le_of_ble_eq_true rfl)⟩) (fun r1 hr1 => ?_)
  replace hr1 := hr1.symm; subst hr1
  refine lv_pop hx hb d_AL_get_8 rfl ?_
  refine lv_aload_n hx hb d_AL_get_9 rfl (lv_at hl 0 rfl) ?_
  refine lv_iload_n hx hb d_AL_get_10 rfl (lv_at hl 1 rfl) ?_
  have hPc : va_P (dC, dI) classes [(h0, .inr (9, [.int md, .ref ed, .int 1])), (ed, .inl (cB, 10, .inr (.inr (.inr (.inr (f0))))))] _ := hP.sub (ws' := [(h0, .inr (9, [.int md, .ref ed, .int 1])), (ed, .inl (cB, 10, .inr (.inr (.inr (.inr (f0))))))]) [0, 1] rfl
  have hKc : va_K (dC, dI) classes [(cB, .object "java/lang/Object")] s := hK.sub (tys' := [(cB, .object "java/lang/Object")]) [0] rfl
  refine va_csr (W.runV (As := [.int 0]) (rest := []) ⟨hx, hb, hml, hown, hts⟩ (c_AL_elementData l dC dI h0 md ed cB f0 e0 hf) (cwV 1 hts g_AL_get_11 rfl rfl rfl (by decide +kernel) ⟨Nat.le_of_ble_eq_true rfl, Nat.le_of_ble_eq_true rfl⟩) ⟨fun a U g mk z => by obtain ⟨z0, zP, zK⟩ := z; exact ⟨z0, zP, va_K.moved (u := U) (U := U.calling g mk a) (Vm.Alike.refl U.vm) zK⟩, va_recv hKc hPc (ci := 9) (q0 := 0) rfl rfl, fun U hU hW => ⟨rfl, by rw [hU]; exact hPc, va_K.moved hW.alike hKc⟩⟩ rfl rfl hl.1 rfl (lv_room (Nat.le_of_ble_eq_true rfl)) d_AL_get_11 ⟨(Nat.le_of_ble_eq_true rfl), (Nat.le_of_ble_eq_true rfl)⟩) (fun r2 hr2 => ?_)
  replace hr2 := hr2.symm; subst hr2
  exact W.aret hx hb hr (Or.inl ⟨_, rfl⟩) (Or.inr ⟨_, rfl⟩) (fun t ht hW => ⟨_, rfl, rfl, ht⟩) (fun _ h => by cases h) d_AL_get_14

abbrev rm_IT_init : Room := { frames := 1, cells := 0, slots := 0, locals := 12 }
abbrev b_IT_init : ByteArray := prog_51_method_1_code
def y_IT_init : MethodName := ⟨"java/util/ArrayList$Itr", "<init>", "(Ljava/util/ArrayList;)V"⟩
def w_IT_init : List Cond := [.code ⟨"java/util/ArrayList$Itr", "<init>", "(Ljava/util/ArrayList;)V"⟩ prog_51_method_1_code 2 none, .lays "java/util/ArrayList$Itr" "java/util/ArrayList$Itr" "cursor" "I", .lays "java/util/ArrayList$Itr" "java/util/ArrayList$Itr" "lastRet" "I", .lays "java/util/ArrayList$Itr" "java/util/ArrayList$Itr" "expectedModCount" "I", .laysFinal "java/util/ArrayList$Itr" "java/util/ArrayList$Itr" "this$0" "Ljava/util/ArrayList;", .fieldLink "java/util/ArrayList$Itr" 1 "java/util/ArrayList$Itr" "this$0" "Ljava/util/ArrayList;", .methodLink "java/util/ArrayList$Itr" 7 ⟨"java/lang/Object", "<init>", "()V"⟩, .instanceMethod ⟨"java/lang/Object", "<init>", "()V"⟩, .code ⟨"java/lang/Object", "<init>", "()V"⟩ object_method_1_code 1 none, .fieldLink "java/util/ArrayList$Itr" 13 "java/util/ArrayList$Itr" "lastRet" "I", .sameField "java/util/ArrayList" "java/util/AbstractList" "modCount" "I", .lays "java/util/ArrayList" "java/util/AbstractList" "modCount" "I", .lays "java/util/ArrayList" "java/util/ArrayList" "elementData" "[Ljava/lang/Object;", .lays "java/util/ArrayList" "java/util/ArrayList" "size" "I", .fieldLink "java/util/ArrayList$Itr" 17 "java/util/ArrayList" "modCount" "I", .fieldLink "java/util/ArrayList$Itr" 22 "java/util/ArrayList$Itr" "expectedModCount" "I"]
theorem d_IT_init_0 : decode b_IT_init 0 = .ok (.aload_n 0, 1) := by decide +kernel
theorem d_IT_init_1 : decode b_IT_init 1 = .ok (.aload_n 1, 1) := by decide +kernel
theorem d_IT_init_2 : decode b_IT_init 2 = .ok (.putfield 1, 3) := by decide +kernel
theorem d_IT_init_5 : decode b_IT_init 5 = .ok (.aload_n 0, 1) := by decide +kernel
theorem d_IT_init_6 : decode b_IT_init 6 = .ok (.invokespecial 7, 3) := by decide +kernel
theorem d_IT_init_9 : decode b_IT_init 9 = .ok (.aload_n 0, 1) := by decide +kernel
theorem d_IT_init_10 : decode b_IT_init 10 = .ok (.iconst (-1), 1) := by decide +kernel
theorem d_IT_init_11 : decode b_IT_init 11 = .ok (.putfield 13, 3) := by decide +kernel
theorem d_IT_init_14 : decode b_IT_init 14 = .ok (.aload_n 0, 1) := by decide +kernel
theorem d_IT_init_15 : decode b_IT_init 15 = .ok (.aload_n 0, 1) := by decide +kernel
theorem d_IT_init_16 : decode b_IT_init 16 = .ok (.getfield 1, 3) := by decide +kernel
theorem d_IT_init_19 : decode b_IT_init 19 = .ok (.getfield 17, 3) := by decide +kernel
theorem d_IT_init_22 : decode b_IT_init 22 = .ok (.putfield 22, 3) := by decide +kernel
theorem d_IT_init_25 : decode b_IT_init 25 = .ok (.return_, 1) := by decide +kernel
theorem in_IT_init_AL : ∀ v ∈ u_ws R_AL T_AL 3, v ∈ w_IT_init := by decide +kernel
theorem in_IT_init_IT : ∀ v ∈ u_ws R_IT T_IT 4, v ∈ w_IT_init := by decide +kernel
set_option maxHeartbeats 4000000 in
set_option maxRecDepth 100000 in
theorem c_IT_init (l : Launch) (dC : Nat → ClassId) (dI : Nat → Nat → Nat) (h1 : Nat) (h0 : Nat) (md : Int32) (ed : Nat) (n : Int32) (sz : Nat) : Met l y_IT_init w_IT_init rm_IT_init (va_Pc [.ref h1, .ref h0] (fun U => U.heap.size = sz ∧ va_P (dC, dI) classes [(h1, .inr (10, [.int 0, .int 0, .int 0, .null])), (h0, .inr (9, [.int md, .ref ed, .int n]))] U.heap ∧ va_K (dC, dI) classes [] U ∧ va_D (fun _ => True) [(h1, .inr (10, [.int 0, .int 0, .int 0, .null])), (h0, .inr (9, [.int md, .ref ed, .int n]))])) (va_Qv (fun (_ : Unit) => True) (fun _ t => va_P (dC, dI) classes [(h1, .inr (10, [.int 0, .int (-1), .int md, .ref h0])), (h0, .inr (9, [.int md, .ref ed, .int n]))] t.heap ∧ va_K (dC, dI) classes [] t ∧ va_D (va_A [(h1, .inr (10, [.int 0, .int 0, .int 0, .null])), (h0, .inr (9, [.int md, .ref ed, .int n]))] sz) [(h1, .inr (10, [.int 0, .int (-1), .int md, .ref h0])), (h0, .inr (9, [.int md, .ref ed, .int n]))]) (va_A [(h1, .inr (10, [.int 0, .int 0, .int 0, .null])), (h0, .inr (9, [.int md, .ref ed, .int n]))] sz)) 0 0 (va_A [(h1, .inr (10, [.int 0, .int 0, .int 0, .null])), (h0, .inr (9, [.int md, .ref ed, .int n]))] sz) := by
  refine Met.ofW (cc := b_IT_init) (maxL := 2) (ret := none) (by decide) rfl ?_
  intro p e s m args below meth c s₁ B hml hv
  obtain ⟨rfl, hsz, hP, hK, hD0⟩ := hv
  have hx := B.exec
  have hb := B.bytes
  have hr := B.returns
  have hts := atoms_spec (ws := w_IT_init) B.pre
  have hown : s.vm.findClass "java/util/ArrayList$Itr" = some m.cls := findClass_of_methodNamed B.named
  have hlocks := B.notSynchronized
  have hin : meth.name = "<init>" := (name_of_methodNamed B.named B.method).1
  subst hsz
  have hD := hD0.self (sz := s.heap.size)
  generalize hAe : va_A [(h1, .inr (10, [.int 0, .int 0, .int 0, .null])), (h0, .inr (9, [.int md, .ref ed, .int n]))] s.heap.size = A at hD ⊢
  have hA : ∀ q : Nat, s.heap.size ≤ q → A q := fun q h => by rw [← hAe]; exact Or.inr h
  have hS : va_S A s.heap s.heap [] := va_S.rf
  have hP : va_P (dC, dI) classes [(h1, .inr (10, [.int 0, .int 0, .int 0, .null])), (h0, .inr (9, [.int md, .ref ed, .int n]))] s.heap := hP
  have hl := lv_entry ([.ref h1, .ref h0]) (n := 2) (Nat.le_of_ble_eq_true rfl)
  rw [lg_entry_eq]
  generalize (lg_sl ([.ref h1, .ref h0]) ++ List.replicate (2 - (lg_sl ([.ref h1, .ref h0])).length) Slot.unset).toArray = ls at hl ⊢
  have hl : lv_has ls 2 [(0, .ref h1), (1, .ref h0)] := hl
  refine lv_aload_n hx hb d_IT_init_0 rfl (lv_at hl 0 rfl) ?_
  refine lv_aload_n hx hb d_IT_init_1 rfl (lv_at hl 1 rfl) ?_
  refine va_putF (D := (dC, dI)) (ci := 10) (v := .ref h0) (ty := .object "java/util/ArrayList") (C := R_IT) (T := T_IT) (N := 4) hx hb hts in_IT_init_IT t_IT t_IT_ok n_IT hown hK hP hD hS 0 rfl rfl 3 (by decide) (hts (.fieldLink "java/util/ArrayList$Itr" 1 "java/util/ArrayList$Itr" "this$0" "Ljava/util/ArrayList;") (List.mem_of_getElem? (i := 5) rfl)) (fun _ h9 => h9) rfl hin rfl (by decide +kernel) rfl rfl (Nat.le_of_ble_eq_true rfl) d_IT_init_2 (fun H locs hP hD hS => ?_)
  have hP : va_P (dC, dI) classes [(h1, .inr (10, [.int 0, .int 0, .int 0, .ref h0])), (h0, .inr (9, [.int md, .ref ed, .int n]))] H := hP
  have hD : va_D A [(h1, .inr (10, [.int 0, .int 0, .int 0, .ref h0])), (h0, .inr (9, [.int md, .ref ed, .int n]))] := hD
  refine lv_aload_n hx hb d_IT_init_5 rfl (lv_at hl 0 rfl) ?_
  refine W.objInit hx hb hown (hts (.methodLink "java/util/ArrayList$Itr" 7 ⟨"java/lang/Object", "<init>", "()V"⟩) (List.mem_of_getElem? (i := 6) rfl)) (hts (.instanceMethod ⟨"java/lang/Object", "<init>", "()V"⟩) (List.mem_of_getElem? (i := 7) rfl)) (hts (.code ⟨"java/lang/Object", "<init>", "()V"⟩ object_method_1_code 1 none) (List.mem_of_getElem? (i := 8) rfl)) rfl (by rw [hml]; exact hl.1) rfl d_IT_init_6 (Nat.le_of_ble_eq_true rfl) (Nat.le_of_ble_eq_true rfl) ?_
  refine W.eq (g2 := F0 m 9 ls []) rfl ?_
  refine lv_aload_n hx hb d_IT_init_9 rfl (lv_at hl 0 rfl) ?_
  refine lv_iconst (v := (-1)) hx hb d_IT_init_10 (by decide) ?_
  refine va_put (D := (dC, dI)) (ci := 10) (v := .int (-1)) (ty := .int) (C := R_IT) (T := T_IT) (N := 4) hx hb hts in_IT_init_IT t_IT t_IT_ok n_IT hown hK hP hD hS 0 rfl rfl 1 (by decide) (hts (.fieldLink "java/util/ArrayList$Itr" 13 "java/util/ArrayList$Itr" "lastRet" "I") (List.mem_of_getElem? (i := 9) rfl)) (fun _ h9 => h9) rfl (by decide +kernel) rfl rfl (Nat.le_of_ble_eq_true rfl) d_IT_init_11 (fun H locs hP hD hS => ?_)
  have hP : va_P (dC, dI) classes [(h1, .inr (10, [.int 0, .int (-1), .int 0, .ref h0])), (h0, .inr (9, [.int md, .ref ed, .int n]))] H := hP
  have hD : va_D A [(h1, .inr (10, [.int 0, .int (-1), .int 0, .ref h0])), (h0, .inr (9, [.int md, .ref ed, .int n]))] := hD
  refine lv_aload_n hx hb d_IT_init_14 rfl (lv_at hl 0 rfl) ?_
  refine lv_aload_n hx hb d_IT_init_15 rfl (lv_at hl 0 rfl) ?_
  refine va_get (D := (dC, dI)) (ci := 10) (v := .ref h0) (C := R_IT) (T := T_IT) (N := 4) hx hb hts in_IT_init_IT hown hK hP 0 rfl rfl 3 (by decide) (hts (.fieldLink "java/util/ArrayList$Itr" 1 "java/util/ArrayList$Itr" "this$0" "Ljava/util/ArrayList;") (List.mem_of_getElem? (i := 5) rfl)) (fun _ h9 => h9) rfl d_IT_init_16 ?_
  refine va_get (D := (dC, dI)) (ci := 9) (v := .int md) (C := R_AL) (T := T_AL) (N := 3) hx hb hts in_IT_init_AL hown hK hP 1 rfl rfl 0 (by decide) (hts (.fieldLink "java/util/ArrayList$Itr" 17 "java/util/ArrayList" "modCount" "I") (List.mem_of_getElem? (i := 14) rfl)) (fun x9 h9 => u_same (hts (.sameField "java/util/ArrayList" "java/util/AbstractList" "modCount" "I") (List.mem_of_getElem? (i := 10) rfl)) x9 h9) rfl d_IT_init_19 ?_
  refine va_put (D := (dC, dI)) (ci := 10) (v := .int md) (ty := .int) (C := R_IT) (T := T_IT) (N := 4) hx hb hts in_IT_init_IT t_IT t_IT_ok n_IT hown hK hP hD hS 0 rfl rfl 2 (by decide) (hts (.fieldLink "java/util/ArrayList$Itr" 22 "java/util/ArrayList$Itr" "expectedModCount" "I") (List.mem_of_getElem? (i := 15) rfl)) (fun _ h9 => h9) rfl (by decide +kernel) rfl rfl (Nat.le_of_ble_eq_true rfl) d_IT_init_22 (fun H locs hP hD hS => ?_)
  have hP : va_P (dC, dI) classes [(h1, .inr (10, [.int 0, .int (-1), .int md, .ref h0])), (h0, .inr (9, [.int md, .ref ed, .int n]))] H := hP
  have hD : va_D A [(h1, .inr (10, [.int 0, .int (-1), .int md, .ref h0])), (h0, .inr (9, [.int md, .ref ed, .int n]))] := hD
  have hP9 : va_P (dC, dI) classes [(h1, .inr (10, [.int 0, .int (-1), .int md, .ref h0])), (h0, .inr (9, [.int md, .ref ed, .int n]))] H := hP.sub (ws' := [(h1, .inr (10, [.int 0, .int (-1), .int md, .ref h0])), (h0, .inr (9, [.int md, .ref ed, .int n]))]) [0, 1] rfl
  have hD9 := hD.sub (ws' := [(h1, .inr (10, [.int 0, .int (-1), .int md, .ref h0])), (h0, .inr (9, [.int md, .ref ed, .int n]))]) [0, 1] (by decide) rfl
  have hK9 := hK.sub (tys' := []) [] rfl
  refine W.widen (k := 0) (n := 0) (by omega) (by omega) ?_
  exact W.vret hx hb hr (fun t ht hW => ⟨⟨(), rfl, trivial, ⟨by rw [ht]; exact hP9, va_K.moved hW.alike hK9, hD9⟩⟩, hS.F ht⟩) hS.2.2 d_IT_init_25

abbrev rm_AL_iterator : Room := { frames := 2, cells := 1, slots := 4, locals := 33 }
abbrev b_AL_iterator : ByteArray := prog_50_method_55_code
def y_AL_iterator : MethodName := ⟨"java/util/ArrayList", "iterator", "()Ljava/util/Iterator;"⟩
def w_AL_iterator : List Cond := [.code ⟨"java/util/ArrayList", "iterator", "()Ljava/util/Iterator;"⟩ prog_50_method_55_code 1 (some (.object "java/util/Iterator")), .lays "java/util/ArrayList$Itr" "java/util/ArrayList$Itr" "cursor" "I", .lays "java/util/ArrayList$Itr" "java/util/ArrayList$Itr" "lastRet" "I", .lays "java/util/ArrayList$Itr" "java/util/ArrayList$Itr" "expectedModCount" "I", .laysFinal "java/util/ArrayList$Itr" "java/util/ArrayList$Itr" "this$0" "Ljava/util/ArrayList;", .classLink "java/util/ArrayList" 267 "java/util/ArrayList$Itr", .instantiable "java/util/ArrayList$Itr" 4, .initialized "java/util/ArrayList$Itr", .code ⟨"java/util/ArrayList$Itr", "<init>", "(Ljava/util/ArrayList;)V"⟩ prog_51_method_1_code 2 none, .fieldLink "java/util/ArrayList$Itr" 1 "java/util/ArrayList$Itr" "this$0" "Ljava/util/ArrayList;", .methodLink "java/util/ArrayList$Itr" 7 ⟨"java/lang/Object", "<init>", "()V"⟩, .instanceMethod ⟨"java/lang/Object", "<init>", "()V"⟩, .code ⟨"java/lang/Object", "<init>", "()V"⟩ object_method_1_code 1 none, .fieldLink "java/util/ArrayList$Itr" 13 "java/util/ArrayList$Itr" "lastRet" "I", .sameField "java/util/ArrayList" "java/util/AbstractList" "modCount" "I", .lays "java/util/ArrayList" "java/util/AbstractList" "modCount" "I", .lays "java/util/ArrayList" "java/util/ArrayList" "elementData" "[Ljava/lang/Object;", .lays "java/util/ArrayList" "java/util/ArrayList" "size" "I", .fieldLink "java/util/ArrayList$Itr" 17 "java/util/ArrayList" "modCount" "I", .fieldLink "java/util/ArrayList$Itr" 22 "java/util/ArrayList$Itr" "expectedModCount" "I", .methodLink "java/util/ArrayList" 269 ⟨"java/util/ArrayList$Itr", "<init>", "(Ljava/util/ArrayList;)V"⟩, .instanceMethod ⟨"java/util/ArrayList$Itr", "<init>", "(Ljava/util/ArrayList;)V"⟩]
theorem d_AL_iterator_0 : decode b_AL_iterator 0 = .ok (.new 267, 3) := by decide +kernel
theorem d_AL_iterator_3 : decode b_AL_iterator 3 = .ok (.dup, 1) := by decide +kernel
theorem d_AL_iterator_4 : decode b_AL_iterator 4 = .ok (.aload_n 0, 1) := by decide +kernel
theorem d_AL_iterator_5 : decode b_AL_iterator 5 = .ok (.invokespecial 269, 3) := by decide +kernel
theorem d_AL_iterator_8 : decode b_AL_iterator 8 = .ok (.areturn, 1) := by decide +kernel
theorem in_AL_iterator_IT : ∀ v ∈ u_ws R_IT T_IT 4, v ∈ w_AL_iterator := by decide +kernel
set_option maxRecDepth 20000 in
theorem g_AL_iterator_5 : GoodIn w_AL_iterator (w_IT_init) := goodIn_r _ [8, 1, 2, 3, 4, 9, 10, 11, 12, 13, 14, 15, 16, 17, 18, 19] rfl (by decide +kernel)
set_option maxHeartbeats 4000000 in
set_option maxRecDepth 100000 in
theorem c_AL_iterator (l : Launch) (dC : Nat → ClassId) (dI : Nat → Nat → Nat) (h0 : Nat) (md : Int32) (ed : Nat) (n : Int32) (sz : Nat) : Met l y_AL_iterator w_AL_iterator rm_AL_iterator (va_Pc [.ref h0] (fun U => U.heap.size = sz ∧ va_P (dC, dI) classes [(h0, .inr (9, [.int md, .ref ed, .int n]))] U.heap ∧ va_K (dC, dI) classes [] U ∧ va_D (fun _ => True) [(h0, .inr (9, [.int md, .ref ed, .int n]))])) (va_Qr (fun (_ : Unit) => True) (fun _ rr t => va_P (dC, dI) classes [(rr, .inr (10, [.int 0, .int (-1), .int md, .ref h0])), (h0, .inr (9, [.int md, .ref ed, .int n]))] t.heap ∧ va_K (dC, dI) classes [] t ∧ va_D (va_A [(h0, .inr (9, [.int md, .ref ed, .int n]))] sz) [(rr, .inr (10, [.int 0, .int (-1), .int md, .ref h0])), (h0, .inr (9, [.int md, .ref ed, .int n]))] ∧ sz + 1 ≤ t.heap.size) (va_A [(h0, .inr (9, [.int md, .ref ed, .int n]))] sz)) 1 4 (va_A [(h0, .inr (9, [.int md, .ref ed, .int n]))] sz) := by
  refine Met.ofW (cc := b_AL_iterator) (maxL := 1) (ret := (some (.object "java/util/Iterator"))) (by decide) rfl ?_
  intro p e s m args below meth c s₁ B hml hv
  obtain ⟨rfl, hsz, hP, hK, hD0⟩ := hv
  have hx := B.exec
  have hb := B.bytes
  have hr := B.returns
  have hts := atoms_spec (ws := w_AL_iterator) B.pre
  have hown : s.vm.findClass "java/util/ArrayList" = some m.cls := findClass_of_methodNamed B.named
  have hlocks := B.notSynchronized
  subst hsz
  have hD := hD0.self (sz := s.heap.size)
  generalize hAe : va_A [(h0, .inr (9, [.int md, .ref ed, .int n]))] s.heap.size = A at hD ⊢
  have hA : ∀ q : Nat, s.heap.size ≤ q → A q := fun q h => by rw [← hAe]; exact Or.inr h
  have hS : va_S A s.heap s.heap [] := va_S.rf
  have hP : va_P (dC, dI) classes [(h0, .inr (9, [.int md, .ref ed, .int n]))] s.heap := hP
  have hl := lv_entry ([.ref h0]) (n := 1) (Nat.le_of_ble_eq_true rfl)
  rw [lg_entry_eq]
  generalize (lg_sl ([.ref h0]) ++ List.replicate (1 - (lg_sl ([.ref h0])).length) Slot.unset).toArray = ls at hl ⊢
  have hl : lv_has ls 1 [(0, .ref h0)] := hl
  refine va_new (D := (dC, dI)) (ci := 10) (fs := [.int 0, .int 0, .int 0, .null]) (C := R_IT) (T := T_IT) (N := 4) hx hb hts in_AL_iterator_IT t_IT t_IT_ok hown (hts (.classLink "java/util/ArrayList" 267 "java/util/ArrayList$Itr") (List.mem_of_getElem? (i := 5) rfl)) (hts (.instantiable "java/util/ArrayList$Itr" 4) (List.mem_of_getElem? (i := 6) rfl)) (hts (.initialized "java/util/ArrayList$Itr") (List.mem_of_getElem? (i := 7) rfl)) hK hP hD hS hA rfl (fun j hj => by rcases (show j = 0 ∨ j = 1 ∨ j = 2 ∨ j = 3 by omega) with rfl | rfl | rfl | rfl <;> rfl) (Nat.le_of_ble_eq_true rfl) (Nat.le_of_ble_eq_true rfl) d_AL_iterator_0 (fun q1 H hP hD hS => ?_)
  have hP : va_P (dC, dI) classes [(h0, .inr (9, [.int md, .ref ed, .int n])), (q1, .inr (10, [.int 0, .int 0, .int 0, .null]))] H := hP
  have hD : va_D A [(h0, .inr (9, [.int md, .ref ed, .int n])), (q1, .inr (10, [.int 0, .int 0, .int 0, .null]))] := hD
  refine W.widen (k := 1) (n := 4) (by omega) (by omega) ?_
  refine lv_dup hx hb d_AL_iterator_3 rfl ?_
  refine lv_aload_n hx hb d_AL_iterator_4 rfl (lv_at hl 0 rfl) ?_
  have hPc : va_P (dC, dI) classes [(q1, .inr (10, [.int 0, .int 0, .int 0, .null])), (h0, .inr (9, [.int md, .ref ed, .int n]))] _ := hP.sub (ws' := [(q1, .inr (10, [.int 0, .int 0, .int 0, .null])), (h0, .inr (9, [.int md, .ref ed, .int n]))]) [1, 0] rfl
  have hKc : va_K (dC, dI) classes [] s := hK.sub (tys' := []) [] rfl
  have hDc : va_D _ [(q1, .inr (10, [.int 0, .int 0, .int 0, .null])), (h0, .inr (9, [.int md, .ref ed, .int n]))] := hD.sub (ws' := [(q1, .inr (10, [.int 0, .int 0, .int 0, .null])), (h0, .inr (9, [.int md, .ref ed, .int n]))]) [1, 0] (by decide) rfl
  have hFc := va_free (wc := [(q1, .inr (10, [.int 0, .int 0, .int 0, .null])), (h0, .inr (9, [.int md, .ref ed, .int n]))]) hD hS hA [1, 0] rfl
  refine va_callv (va_runI (As := [.ref h0]) (rest := [.ref q1]) ⟨hx, hb, hml, hown, hts⟩ (c_IT_init l dC dI q1 h0 md ed n H.size) (cwI 1 hts g_AL_iterator_5 rfl rfl rfl (hts (.initialized "java/util/ArrayList$Itr") (List.mem_of_getElem? (i := 7) rfl)) (hts (.methodLink "java/util/ArrayList" 269 ⟨"java/util/ArrayList$Itr", "<init>", "(Ljava/util/ArrayList;)V"⟩) (List.mem_of_getElem? (i := 20) rfl)) (hts (.instanceMethod ⟨"java/util/ArrayList$Itr", "<init>", "(Ljava/util/ArrayList;)V"⟩) (List.mem_of_getElem? (i := 21) rfl)) rfl (by decide +kernel) ⟨Nat.le_of_ble_eq_true rfl, Nat.le_of_ble_eq_true rfl⟩) ⟨fun a U g mk z => by obtain ⟨z0, z1, zP, zK, zD⟩ := z; exact ⟨z0, z1, zP, va_K.moved (u := U) (U := U.calling g mk a) (Vm.Alike.refl U.vm) zK, zD⟩, fun U hU hW => ⟨rfl, by rw [hU], by rw [hU]; exact hPc, va_K.moved hW.alike hKc, hDc.weaken (fun _ _ _ _ => trivial)⟩⟩ rfl rfl hl.1 rfl (lv_room (Nat.le_of_ble_eq_true rfl)) d_AL_iterator_5 ⟨(Nat.le_of_ble_eq_true rfl), (Nat.le_of_ble_eq_true rfl)⟩) hS (fun q _ h => hFc q h) hFc (fun u t H1 locs ht hvm hr2 hB hz1 hk1 hS => ?_)
  obtain ⟨hP1, hK1, hD1⟩ := hB
  rw [ht] at hP1
  have hK1 := va_K.moved hvm.symm hK1
  obtain ⟨hP, hD⟩ := va_join (wr := []) (w1 := [(q1, .inr (10, [.int 0, .int (-1), .int md, .ref h0])), (h0, .inr (9, [.int md, .ref ed, .int n]))]) hP hD [1, 0] [] rfl rfl (by decide) (by decide) hk1 hFc hP1 hD1
  clear hPc hDc hKc hFc hP1 hD1 hK1 hk1
  generalize H1 = H at hP hS ⊢
  have hP : va_P (dC, dI) classes [(q1, .inr (10, [.int 0, .int (-1), .int md, .ref h0])), (h0, .inr (9, [.int md, .ref ed, .int n]))] H := hP
  have hD : va_D A [(q1, .inr (10, [.int 0, .int (-1), .int md, .ref h0])), (h0, .inr (9, [.int md, .ref ed, .int n]))] := hD
  refine W.widen (k := 1) (n := 4) (by omega) (by omega) ?_
  have hP9 : va_P (dC, dI) classes [(q1, .inr (10, [.int 0, .int (-1), .int md, .ref h0])), (h0, .inr (9, [.int md, .ref ed, .int n]))] H := hP.sub (ws' := [(q1, .inr (10, [.int 0, .int (-1), .int md, .ref h0])), (h0, .inr (9, [.int md, .ref ed, .int n]))]) [0, 1] rfl
  have hD9 := hD.sub (ws' := [(q1, .inr (10, [.int 0, .int (-1), .int md, .ref h0])), (h0, .inr (9, [.int md, .ref ed, .int n]))]) [0, 1] (by decide) rfl
  have hK9 := hK.sub (tys' := []) [] rfl
  refine W.widen (k := 1) (n := 4) (by omega) (by omega) ?_
  exact W.aret hx hb hr (Or.inl ⟨_, rfl⟩) (Or.inr ⟨_, rfl⟩) (fun t ht hW => ⟨⟨(), _, rfl, trivial, ⟨by rw [ht]; exact hP9, va_K.moved hW.alike hK9, hD9, (by rw [ht]; exact ry_grow hAe hP hD 0 rfl (by intro z hz; rw [List.mem_singleton.mp hz]; exact ry_ne hD 1 0 rfl rfl (by decide)))⟩⟩, hS.F ht⟩) hS.2.2 d_AL_iterator_8

abbrev rm_IT_hasNext : Room := { frames := 0, cells := 0, slots := 0, locals := 0 }
abbrev b_IT_hasNext : ByteArray := prog_51_method_2_code
def y_IT_hasNext : MethodName := ⟨"java/util/ArrayList$Itr", "hasNext", "()Z"⟩
def w_IT_hasNext : List Cond := [.code ⟨"java/util/ArrayList$Itr", "hasNext", "()Z"⟩ prog_51_method_2_code 1 (some .boolean), .lays "java/util/ArrayList$Itr" "java/util/ArrayList$Itr" "cursor" "I", .lays "java/util/ArrayList$Itr" "java/util/ArrayList$Itr" "lastRet" "I", .lays "java/util/ArrayList$Itr" "java/util/ArrayList$Itr" "expectedModCount" "I", .laysFinal "java/util/ArrayList$Itr" "java/util/ArrayList$Itr" "this$0" "Ljava/util/ArrayList;", .fieldLink "java/util/ArrayList$Itr" 25 "java/util/ArrayList$Itr" "cursor" "I", .fieldLink "java/util/ArrayList$Itr" 1 "java/util/ArrayList$Itr" "this$0" "Ljava/util/ArrayList;", .lays "java/util/ArrayList" "java/util/AbstractList" "modCount" "I", .lays "java/util/ArrayList" "java/util/ArrayList" "elementData" "[Ljava/lang/Object;", .lays "java/util/ArrayList" "java/util/ArrayList" "size" "I"]
theorem d_IT_hasNext_0 : decode b_IT_hasNext 0 = .ok (.aload_n 0, 1) := by decide +kernel
theorem d_IT_hasNext_1 : decode b_IT_hasNext 1 = .ok (.getfield 25, 3) := by decide +kernel
theorem d_IT_hasNext_4 : decode b_IT_hasNext 4 = .ok (.aload_n 0, 1) := by decide +kernel
theorem d_IT_hasNext_5 : decode b_IT_hasNext 5 = .ok (.getfield 1, 3) := by decide +kernel
theorem d_IT_hasNext_8 : decode b_IT_hasNext 8 = .ok (.getfield 28, 3) := by decide +kernel
theorem d_IT_hasNext_11 : decode b_IT_hasNext 11 = .ok (.if_icmp .eq 7, 3) := by decide +kernel
theorem d_IT_hasNext_14 : decode b_IT_hasNext 14 = .ok (.iconst 1, 1) := by decide +kernel
theorem d_IT_hasNext_15 : decode b_IT_hasNext 15 = .ok (.goto 4, 3) := by decide +kernel
theorem d_IT_hasNext_18 : decode b_IT_hasNext 18 = .ok (.iconst 0, 1) := by decide +kernel
theorem d_IT_hasNext_19 : decode b_IT_hasNext 19 = .ok (.ireturn, 1) := by decide +kernel
theorem in_IT_hasNext_AL : ∀ v ∈ u_ws R_AL T_AL 3, v ∈ w_IT_hasNext := by decide +kernel
theorem in_IT_hasNext_IT : ∀ v ∈ u_ws R_IT T_IT 4, v ∈ w_IT_hasNext := by decide +kernel
set_option maxHeartbeats 4000000 in
set_option maxRecDepth 100000 in
theorem c_IT_hasNext (l : Launch) (dC : Nat → ClassId) (dI : Nat → Nat → Nat) (h1 : Nat) (cu : Int32) (lr : Int32) (md : Int32) (h0 : Nat) (ed : Nat) (n : Int32) : Met l y_IT_hasNext w_IT_hasNext rm_IT_hasNext (va_Pc [.ref h1] (fun U => va_P (dC, dI) classes [(h1, .inr (10, [.int cu, .int lr, .int md, .ref h0])), (h0, .inr (9, [.int md, .ref ed, .int n]))] U.heap ∧ va_K (dC, dI) classes [] U ∧ va_Nw (.fieldLinkNest "java/util/ArrayList$Itr" 28 "java/util/ArrayList" "size" "I" "java/util/ArrayList") U)) (vp_Si (fun r => (cu = n → r = 0) ∧ (¬ cu = n → r = 1))) 0 0 (fun _ => False) := by
  refine Met.ofW (cc := b_IT_hasNext) (maxL := 1) (ret := (some .boolean)) (by decide) rfl ?_
  intro p e s m args below meth c s₁ B hml hv
  obtain ⟨rfl, hP, hK, hE0⟩ := hv
  have hx := B.exec
  have hb := B.bytes
  have hr := B.returns
  have hts := atoms_spec (ws := w_IT_hasNext) B.pre
  have hown : s.vm.findClass "java/util/ArrayList$Itr" = some m.cls := findClass_of_methodNamed B.named
  have hlocks := B.notSynchronized
  have hP : va_P (dC, dI) classes [(h1, .inr (10, [.int cu, .int lr, .int md, .ref h0])), (h0, .inr (9, [.int md, .ref ed, .int n]))] s.heap := hP
  have hl := lv_entry ([.ref h1]) (n := 1) (Nat.le_of_ble_eq_true rfl)
  rw [lg_entry_eq]
  generalize (lg_sl ([.ref h1]) ++ List.replicate (1 - (lg_sl ([.ref h1])).length) Slot.unset).toArray = ls at hl ⊢
  have hl : lv_has ls 1 [(0, .ref h1)] := hl
  refine lv_aload_n hx hb d_IT_hasNext_0 rfl (lv_at hl 0 rfl) ?_
  refine va_get (D := (dC, dI)) (ci := 10) (v := .int cu) (C := R_IT) (T := T_IT) (N := 4) hx hb hts in_IT_hasNext_IT hown hK hP 0 rfl rfl 0 (by decide) (hts (.fieldLink "java/util/ArrayList$Itr" 25 "java/util/ArrayList$Itr" "cursor" "I") (List.mem_of_getElem? (i := 5) rfl)) (fun _ h9 => h9) rfl d_IT_hasNext_1 ?_
  refine lv_aload_n hx hb d_IT_hasNext_4 rfl (lv_at hl 0 rfl) ?_
  refine va_get (D := (dC, dI)) (ci := 10) (v := .ref h0) (C := R_IT) (T := T_IT) (N := 4) hx hb hts in_IT_hasNext_IT hown hK hP 0 rfl rfl 3 (by decide) (hts (.fieldLink "java/util/ArrayList$Itr" 1 "java/util/ArrayList$Itr" "this$0" "Ljava/util/ArrayList;") (List.mem_of_getElem? (i := 6) rfl)) (fun _ h9 => h9) rfl d_IT_hasNext_5 ?_
  refine va_getN (D := (dC, dI)) (ci := 9) (v := .int n) (C := R_AL) (T := T_AL) (N := 3) hx hb hts in_IT_hasNext_AL hown hK hP 1 rfl rfl 2 (by decide) (va_Nw.use rfl hE0) (fun _ h9 => h9) rfl d_IT_hasNext_8 ?_
  refine lv_icmp_eq (tgt := 18) hx hb d_IT_hasNext_11 (by decide) (fun c_11 => ?_) (fun c_11 => ?_)
  · skip
    refine lv_iconst (v := 0) hx hb d_IT_hasNext_18 (by decide) ?_
    exact W.zret hx hb hr rfl (fun t ht hW => ⟨_, rfl, ⟨fun _ => rfl, fun z => absurd c_11 z⟩, ht⟩) (fun _ h => by cases h) d_IT_hasNext_19
  · skip
    refine lv_iconst (v := 1) hx hb d_IT_hasNext_14 (by decide) ?_
    refine lv_goto (tgt := 19) hx hb d_IT_hasNext_15 (by decide) ?_
    exact W.zret hx hb hr rfl (fun t ht hW => ⟨_, rfl, ⟨fun z => absurd z c_11, fun _ => rfl⟩, ht⟩) (fun _ h => by cases h) d_IT_hasNext_19

abbrev rm_IT_check : Room := { frames := 0, cells := 0, slots := 0, locals := 0 }
abbrev b_IT_check : ByteArray := prog_51_method_6_code
def y_IT_check : MethodName := ⟨"java/util/ArrayList$Itr", "checkForComodification", "()V"⟩
def w_IT_check : List Cond := [.code ⟨"java/util/ArrayList$Itr", "checkForComodification", "()V"⟩ prog_51_method_6_code 1 none, .lays "java/util/ArrayList$Itr" "java/util/ArrayList$Itr" "cursor" "I", .lays "java/util/ArrayList$Itr" "java/util/ArrayList$Itr" "lastRet" "I", .lays "java/util/ArrayList$Itr" "java/util/ArrayList$Itr" "expectedModCount" "I", .laysFinal "java/util/ArrayList$Itr" "java/util/ArrayList$Itr" "this$0" "Ljava/util/ArrayList;", .fieldLink "java/util/ArrayList$Itr" 1 "java/util/ArrayList$Itr" "this$0" "Ljava/util/ArrayList;", .sameField "java/util/ArrayList" "java/util/AbstractList" "modCount" "I", .lays "java/util/ArrayList" "java/util/AbstractList" "modCount" "I", .lays "java/util/ArrayList" "java/util/ArrayList" "elementData" "[Ljava/lang/Object;", .lays "java/util/ArrayList" "java/util/ArrayList" "size" "I", .fieldLink "java/util/ArrayList$Itr" 17 "java/util/ArrayList" "modCount" "I", .fieldLink "java/util/ArrayList$Itr" 22 "java/util/ArrayList$Itr" "expectedModCount" "I"]
theorem d_IT_check_0 : decode b_IT_check 0 = .ok (.aload_n 0, 1) := by decide +kernel
theorem d_IT_check_1 : decode b_IT_check 1 = .ok (.getfield 1, 3) := by decide +kernel
theorem d_IT_check_4 : decode b_IT_check 4 = .ok (.getfield 17, 3) := by decide +kernel
theorem d_IT_check_7 : decode b_IT_check 7 = .ok (.aload_n 0, 1) := by decide +kernel
theorem d_IT_check_8 : decode b_IT_check 8 = .ok (.getfield 22, 3) := by decide +kernel
theorem d_IT_check_11 : decode b_IT_check 11 = .ok (.if_icmp .eq 11, 3) := by decide +kernel
theorem d_IT_check_22 : decode b_IT_check 22 = .ok (.return_, 1) := by decide +kernel
theorem in_IT_check_AL : ∀ v ∈ u_ws R_AL T_AL 3, v ∈ w_IT_check := by decide +kernel
theorem in_IT_check_IT : ∀ v ∈ u_ws R_IT T_IT 4, v ∈ w_IT_check := by decide +kernel
set_option maxHeartbeats 4000000 in
set_option maxRecDepth 100000 in
theorem c_IT_check (l : Launch) (dC : Nat → ClassId) (dI : Nat → Nat → Nat) (h1 : Nat) (cu : Int32) (lr : Int32) (md : Int32) (h0 : Nat) (ed : Nat) (n : Int32) : Met l y_IT_check w_IT_check rm_IT_check (va_Pc [.ref h1] (fun U => va_P (dC, dI) classes [(h1, .inr (10, [.int cu, .int lr, .int md, .ref h0])), (h0, .inr (9, [.int md, .ref ed, .int n]))] U.heap ∧ va_K (dC, dI) classes [] U)) (va_Sv (fun _ => True)) 0 0 (fun _ => False) := by
  refine Met.ofW (cc := b_IT_check) (maxL := 1) (ret := none) (by decide) rfl ?_
  intro p e s m args below meth c s₁ B hml hv
  obtain ⟨rfl, hP, hK⟩ := hv
  have hx := B.exec
  have hb := B.bytes
  have hr := B.returns
  have hts := atoms_spec (ws := w_IT_check) B.pre
  have hown : s.vm.findClass "java/util/ArrayList$Itr" = some m.cls := findClass_of_methodNamed B.named
  have hlocks := B.notSynchronized
  have hP : va_P (dC, dI) classes [(h1, .inr (10, [.int cu, .int lr, .int md, .ref h0])), (h0, .inr (9, [.int md, .ref ed, .int n]))] s.heap := hP
  have hl := lv_entry ([.ref h1]) (n := 1) (Nat.le_of_ble_eq_true rfl)
  rw [lg_entry_eq]
  generalize (lg_sl ([.ref h1]) ++ List.replicate (1 - (lg_sl ([.ref h1])).length) Slot.unset).toArray = ls at hl ⊢
  have hl : lv_has ls 1 [(0, .ref h1)] := hl
  refine lv_aload_n hx hb d_IT_check_0 rfl (lv_at hl 0 rfl) ?_
  refine va_get (D := (dC, dI)) (ci := 10) (v := .ref h0) (C := R_IT) (T := T_IT) (N := 4) hx hb hts in_IT_check_IT hown hK hP 0 rfl rfl 3 (by decide) (hts (.fieldLink "java/util/ArrayList$Itr" 1 "java/util/ArrayList$Itr" "this$0" "Ljava/util/ArrayList;") (List.mem_of_getElem? (i := 5) rfl)) (fun _ h9 => h9) rfl d_IT_check_1 ?_
  refine va_get (D := (dC, dI)) (ci := 9) (v := .int md) (C := R_AL) (T := T_AL) (N := 3) hx hb hts in_IT_check_AL hown hK hP 1 rfl rfl 0 (by decide) (hts (.fieldLink "java/util/ArrayList$Itr" 17 "java/util/ArrayList" "modCount" "I") (List.mem_of_getElem? (i := 10) rfl)) (fun x9 h9 => u_same (hts (.sameField "java/util/ArrayList" "java/util/AbstractList" "modCount" "I") (List.mem_of_getElem? (i := 6) rfl)) x9 h9) rfl d_IT_check_4 ?_
  refine lv_aload_n hx hb d_IT_check_7 rfl (lv_at hl 0 rfl) ?_
  refine va_get (D := (dC, dI)) (ci := 10) (v := .int md) (C := R_IT) (T := T_IT) (N := 4) hx hb hts in_IT_check_IT hown hK hP 0 rfl rfl 2 (by decide) (hts (.fieldLink "java/util/ArrayList$Itr" 22 "java/util/ArrayList$Itr" "expectedModCount" "I") (List.mem_of_getElem? (i := 11) rfl)) (fun _ h9 => h9) rfl d_IT_check_8 ?_
  refine lv_icmp_eq (tgt := 22) hx hb d_IT_check_11 (by decide) (fun c_11 => ?_) (fun c_11 => ?_)
  · skip
    exact W.vret hx hb hr (fun t ht hW => ⟨rfl, trivial, ht⟩) (fun _ h => by cases h) d_IT_check_22
  · exact absurd rfl c_11

abbrev rm_IT_next : Room := { frames := 1, cells := 0, slots := 0, locals := 20 }
abbrev b_IT_next : ByteArray := prog_51_method_3_code
def y_IT_next : MethodName := ⟨"java/util/ArrayList$Itr", "next", "()Ljava/lang/Object;"⟩
def w_IT_next : List Cond := [.code ⟨"java/util/ArrayList$Itr", "next", "()Ljava/lang/Object;"⟩ prog_51_method_3_code 3 (some (.object "java/lang/Object")), .methodLink "java/util/ArrayList$Itr" 31 ⟨"java/util/ArrayList$Itr", "checkForComodification", "()V"⟩, .instanceMethod ⟨"java/util/ArrayList$Itr", "checkForComodification", "()V"⟩, .selects "java/util/ArrayList$Itr" ⟨"java/util/ArrayList$Itr", "checkForComodification", "()V"⟩ ⟨"java/util/ArrayList$Itr", "checkForComodification", "()V"⟩, .initialized "java/util/ArrayList$Itr", .code ⟨"java/util/ArrayList$Itr", "checkForComodification", "()V"⟩ prog_51_method_6_code 1 none, .lays "java/util/ArrayList$Itr" "java/util/ArrayList$Itr" "cursor" "I", .lays "java/util/ArrayList$Itr" "java/util/ArrayList$Itr" "lastRet" "I", .lays "java/util/ArrayList$Itr" "java/util/ArrayList$Itr" "expectedModCount" "I", .laysFinal "java/util/ArrayList$Itr" "java/util/ArrayList$Itr" "this$0" "Ljava/util/ArrayList;", .fieldLink "java/util/ArrayList$Itr" 1 "java/util/ArrayList$Itr" "this$0" "Ljava/util/ArrayList;", .sameField "java/util/ArrayList" "java/util/AbstractList" "modCount" "I", .lays "java/util/ArrayList" "java/util/AbstractList" "modCount" "I", .lays "java/util/ArrayList" "java/util/ArrayList" "elementData" "[Ljava/lang/Object;", .lays "java/util/ArrayList" "java/util/ArrayList" "size" "I", .fieldLink "java/util/ArrayList$Itr" 17 "java/util/ArrayList" "modCount" "I", .fieldLink "java/util/ArrayList$Itr" 22 "java/util/ArrayList$Itr" "expectedModCount" "I", .fieldLink "java/util/ArrayList$Itr" 25 "java/util/ArrayList$Itr" "cursor" "I", .fieldLink "java/util/ArrayList$Itr" 37 "java/util/ArrayList" "elementData" "[Ljava/lang/Object;", .fieldLink "java/util/ArrayList$Itr" 13 "java/util/ArrayList$Itr" "lastRet" "I"]
theorem d_IT_next_0 : decode b_IT_next 0 = .ok (.aload_n 0, 1) := by decide +kernel
theorem d_IT_next_1 : decode b_IT_next 1 = .ok (.invokevirtual 31, 3) := by decide +kernel
theorem d_IT_next_4 : decode b_IT_next 4 = .ok (.aload_n 0, 1) := by decide +kernel
theorem d_IT_next_5 : decode b_IT_next 5 = .ok (.getfield 25, 3) := by decide +kernel
theorem d_IT_next_8 : decode b_IT_next 8 = .ok (.istore_n 1, 1) := by decide +kernel
theorem d_IT_next_9 : decode b_IT_next 9 = .ok (.iload_n 1, 1) := by decide +kernel
theorem d_IT_next_10 : decode b_IT_next 10 = .ok (.aload_n 0, 1) := by decide +kernel
theorem d_IT_next_11 : decode b_IT_next 11 = .ok (.getfield 1, 3) := by decide +kernel
theorem d_IT_next_14 : decode b_IT_next 14 = .ok (.getfield 28, 3) := by decide +kernel
theorem d_IT_next_17 : decode b_IT_next 17 = .ok (.if_icmp .lt 11, 3) := by decide +kernel
theorem d_IT_next_28 : decode b_IT_next 28 = .ok (.aload_n 0, 1) := by decide +kernel
theorem d_IT_next_29 : decode b_IT_next 29 = .ok (.getfield 1, 3) := by decide +kernel
theorem d_IT_next_32 : decode b_IT_next 32 = .ok (.getfield 37, 3) := by decide +kernel
theorem d_IT_next_35 : decode b_IT_next 35 = .ok (.astore_n 2, 1) := by decide +kernel
theorem d_IT_next_36 : decode b_IT_next 36 = .ok (.iload_n 1, 1) := by decide +kernel
theorem d_IT_next_37 : decode b_IT_next 37 = .ok (.aload_n 2, 1) := by decide +kernel
theorem d_IT_next_38 : decode b_IT_next 38 = .ok (.arraylength, 1) := by decide +kernel
theorem d_IT_next_39 : decode b_IT_next 39 = .ok (.if_icmp .lt 11, 3) := by decide +kernel
theorem d_IT_next_50 : decode b_IT_next 50 = .ok (.aload_n 0, 1) := by decide +kernel
theorem d_IT_next_51 : decode b_IT_next 51 = .ok (.iload_n 1, 1) := by decide +kernel
theorem d_IT_next_52 : decode b_IT_next 52 = .ok (.iconst 1, 1) := by decide +kernel
theorem d_IT_next_53 : decode b_IT_next 53 = .ok (.iadd, 1) := by decide +kernel
theorem d_IT_next_54 : decode b_IT_next 54 = .ok (.putfield 25, 3) := by decide +kernel
theorem d_IT_next_57 : decode b_IT_next 57 = .ok (.aload_n 2, 1) := by decide +kernel
theorem d_IT_next_58 : decode b_IT_next 58 = .ok (.aload_n 0, 1) := by decide +kernel
theorem d_IT_next_59 : decode b_IT_next 59 = .ok (.iload_n 1, 1) := by decide +kernel
theorem d_IT_next_60 : decode b_IT_next 60 = .ok (.dup_x1, 1) := by decide +kernel
theorem d_IT_next_61 : decode b_IT_next 61 = .ok (.putfield 13, 3) := by decide +kernel
theorem d_IT_next_64 : decode b_IT_next 64 = .ok (.aaload, 1) := by decide +kernel
theorem d_IT_next_65 : decode b_IT_next 65 = .ok (.areturn, 1) := by decide +kernel
theorem in_IT_next_AL : ∀ v ∈ u_ws R_AL T_AL 3, v ∈ w_IT_next := by decide +kernel
theorem in_IT_next_IT : ∀ v ∈ u_ws R_IT T_IT 4, v ∈ w_IT_next := by decide +kernel
set_option maxRecDepth 20000 in
theorem g_IT_next_1 : GoodIn w_IT_next (wsV "java/util/ArrayList$Itr" 31 "java/util/ArrayList$Itr" ⟨"java/util/ArrayList$Itr", "checkForComodification", "()V"⟩ w_IT_check) := goodIn_r _ [1, 2, 3, 4, 5, 6, 7, 8, 9, 10, 11, 12, 13, 14, 15, 16] rfl (by decide +kernel)
set_option maxHeartbeats 4000000 in
set_option maxRecDepth 100000 in
theorem c_IT_next (l : Launch) (dC : Nat → ClassId) (dI : Nat → Nat → Nat) (h1 : Nat) (cu : Int32) (lr : Int32) (md : Int32) (h0 : Nat) (ed : Nat) (n : Int32) (cB : ClassId) (f0 : Nat → Option Nat) (e0 : Nat) (i : Nat) (k : Nat) (hci : cu = nI i) (hnk : n = nI k) (hik : i < k) (hk : k ≤ 10) (hf : f0 i = some e0) (sz : Nat) : Met l y_IT_next w_IT_next rm_IT_next (va_Pc [.ref h1] (fun U => U.heap.size = sz ∧ va_P (dC, dI) classes [(h1, .inr (10, [.int cu, .int lr, .int md, .ref h0])), (h0, .inr (9, [.int md, .ref ed, .int n])), (ed, .inl (cB, 10, .inr (.inr (.inr (.inr (f0))))))] U.heap ∧ va_K (dC, dI) classes [(cB, .object "java/lang/Object")] U ∧ va_D (fun _ => True) [(h1, .inr (10, [.int cu, .int lr, .int md, .ref h0])), (h0, .inr (9, [.int md, .ref ed, .int n])), (ed, .inl (cB, 10, .inr (.inr (.inr (.inr (f0))))))] ∧ va_Nw (.fieldLinkNest "java/util/ArrayList$Itr" 28 "java/util/ArrayList" "size" "I" "java/util/ArrayList") U)) (va_Qr (fun (_ : Unit) => True) (fun _ rr t => ∃ c1 : Int32, va_P (dC, dI) classes [(h1, .inr (10, [.int c1, .int cu, .int md, .ref h0])), (h0, .inr (9, [.int md, .ref ed, .int n])), (ed, .inl (cB, 10, .inr (.inr (.inr (.inr (f0))))))] t.heap ∧ va_K (dC, dI) classes [(cB, .object "java/lang/Object")] t ∧ va_D (va_A [(h1, .inr (10, [.int cu, .int lr, .int md, .ref h0])), (h0, .inr (9, [.int md, .ref ed, .int n])), (ed, .inl (cB, 10, .inr (.inr (.inr (.inr (f0))))))] sz) [(h1, .inr (10, [.int c1, .int cu, .int md, .ref h0])), (h0, .inr (9, [.int md, .ref ed, .int n])), (ed, .inl (cB, 10, .inr (.inr (.inr (.inr (f0))))))] ∧ rr = e0 ∧ c1 = nI (i + 1)) (va_A [(h1, .inr (10, [.int cu, .int lr, .int md, .ref h0])), (h0, .inr (9, [.int md, .ref ed, .int n])), (ed, .inl (cB, 10, .inr (.inr (.inr (.inr (f0))))))] sz)) 0 0 (va_A [(h1, .inr (10, [.int cu, .int lr, .int md, .ref h0])), (h0, .inr (9, [.int md, .ref ed, .int n])), (ed, .inl (cB, 10, .inr (.inr (.inr (.inr (f0))))))] sz) := by
  refine Met.ofW (cc := b_IT_next) (maxL := 3) (ret := (some (.object "java/lang/Object"))) (by decide) rfl ?_
  intro p e s m args below meth c s₁ B hml hv
  obtain ⟨rfl, hsz, hP, hK, hD0, hE0⟩ := hv
  have hx := B.exec
  have hb := B.bytes
  have hr := B.returns
  have hts := atoms_spec (ws := w_IT_next) B.pre
  have hown : s.vm.findClass "java/util/ArrayList$Itr" = some m.cls := findClass_of_methodNamed B.named
  have hlocks := B.notSynchronized
  subst hsz
  have hD := hD0.self (sz := s.heap.size)
  generalize hAe : va_A [(h1, .inr (10, [.int cu, .int lr, .int md, .ref h0])), (h0, .inr (9, [.int md, .ref ed, .int n])), (ed, .inl (cB, 10, .inr (.inr (.inr (.inr (f0))))))] s.heap.size = A at hD hE0 ⊢
  have hA : ∀ q : Nat, s.heap.size ≤ q → A q := fun q h => by rw [← hAe]; exact Or.inr h
  have hS : va_S A s.heap s.heap [] := va_S.rf
  have hP : va_P (dC, dI) classes [(h1, .inr (10, [.int cu, .int lr, .int md, .ref h0])), (h0, .inr (9, [.int md, .ref ed, .int n])), (ed, .inl (cB, 10, .inr (.inr (.inr (.inr (f0))))))] s.heap := hP
  have hl := lv_entry ([.ref h1]) (n := 3) (Nat.le_of_ble_eq_true rfl)
  rw [lg_entry_eq]
  generalize (lg_sl ([.ref h1]) ++ List.replicate (3 - (lg_sl ([.ref h1])).length) Slot.unset).toArray = ls at hl ⊢
  have hl : lv_has ls 3 [(0, .ref h1)] := hl
  refine lv_aload_n hx hb d_IT_next_0 rfl (lv_at hl 0 rfl) ?_
  have hPc : va_P (dC, dI) classes [(h1, .inr (10, [.int cu, .int lr, .int md, .ref h0])), (h0, .inr (9, [.int md, .ref ed, .int n]))] _ := hP.sub (ws' := [(h1, .inr (10, [.int cu, .int lr, .int md, .ref h0])), (h0, .inr (9, [.int md, .ref ed, .int n]))]) [0, 1] rfl
  have hKc : va_K (dC, dI) classes [] s := hK.sub (tys' := []) [] rfl
  refine va_csv (W.runV (As := []) (rest := []) ⟨hx, hb, hml, hown, hts⟩ (c_IT_check l dC dI h1 cu lr md h0 ed n) (cwV 0 hts g_IT_next_1 rfl rfl rfl (by decide +kernel) ⟨Nat.le_of_ble_eq_true rfl, Nat.le_of_ble_eq_true rfl⟩) ⟨fun a U g mk z => by obtain ⟨z0, zP, zK⟩ := z; exact ⟨z0, zP, va_K.moved (u := U) (U := U.calling g mk a) (Vm.Alike.refl U.vm) zK⟩, va_recv hKc hPc (ci := 10) (q0 := 0) rfl rfl, fun U hU hW => ⟨rfl, by rw [hU]; exact hPc, va_K.moved hW.alike hKc⟩⟩ rfl rfl hl.1 rfl (lv_room (Nat.le_of_ble_eq_true rfl)) d_IT_next_1 ⟨(Nat.le_of_ble_eq_true rfl), (Nat.le_of_ble_eq_true rfl)⟩) (fun hr1 => ?_)
  refine lv_aload_n hx hb d_IT_next_4 rfl (lv_at hl 0 rfl) ?_
  refine va_get (D := (dC, dI)) (ci := 10) (v := .int cu) (C := R_IT) (T := T_IT) (N := 4) hx hb hts in_IT_next_IT hown hK hP 0 rfl rfl 0 (by decide) (hts (.fieldLink "java/util/ArrayList$Itr" 25 "java/util/ArrayList$Itr" "cursor" "I") (List.mem_of_getElem? (i := 17) rfl)) (fun _ h9 => h9) rfl d_IT_next_5 ?_
  refine lv_istore_n (lv' := [(1, .int cu), (0, .ref h1)]) hx hb d_IT_next_8 rfl hl (by decide) rfl (fun ls hl => ?_)
  refine lv_iload_n hx hb d_IT_next_9 rfl (lv_at hl 0 rfl) ?_
  refine lv_aload_n hx hb d_IT_next_10 rfl (lv_at hl 1 rfl) ?_
  refine va_get (D := (dC, dI)) (ci := 10) (v := .ref h0) (C := R_IT) (T := T_IT) (N := 4) hx hb hts in_IT_next_IT hown hK hP 0 rfl rfl 3 (by decide) (hts (.fieldLink "java/util/ArrayList$Itr" 1 "java/util/ArrayList$Itr" "this$0" "Ljava/util/ArrayList;") (List.mem_of_getElem? (i := 10) rfl)) (fun _ h9 => h9) rfl d_IT_next_11 ?_
  refine va_getN (D := (dC, dI)) (ci := 9) (v := .int n) (C := R_AL) (T := T_AL) (N := 3) hx hb hts in_IT_next_AL hown hK hP 1 rfl rfl 2 (by decide) (va_Nw.use rfl hE0) (fun _ h9 => h9) rfl d_IT_next_14 ?_
  refine lv_icmp_lt (tgt := 28) hx hb d_IT_next_17 (by decide) (fun c_17 => ?_) (fun c_17 => ?_)
  · skip
    refine lv_aload_n hx hb d_IT_next_28 rfl (lv_at hl 1 rfl) ?_
    refine va_get (D := (dC, dI)) (ci := 10) (v := .ref h0) (C := R_IT) (T := T_IT) (N := 4) hx hb hts in_IT_next_IT hown hK hP 0 rfl rfl 3 (by decide) (hts (.fieldLink "java/util/ArrayList$Itr" 1 "java/util/ArrayList$Itr" "this$0" "Ljava/util/ArrayList;") (List.mem_of_getElem? (i := 10) rfl)) (fun _ h9 => h9) rfl d_IT_next_29 ?_
    refine va_get (D := (dC, dI)) (ci := 9) (v := .ref ed) (C := R_AL) (T := T_AL) (N := 3) hx hb hts in_IT_next_AL hown hK hP 1 rfl rfl 1 (by decide) (hts (.fieldLink "java/util/ArrayList$Itr" 37 "java/util/ArrayList" "elementData" "[Ljava/lang/Object;") (List.mem_of_getElem? (i := 18) rfl)) (fun _ h9 => h9) rfl d_IT_next_32 ?_
    refine lv_astore_n (lv' := [(2, .ref ed), (1, .int cu), (0, .ref h1)]) hx hb d_IT_next_35 rfl hl (by decide) rfl (fun ls hl => ?_)
    refine lv_iload_n hx hb d_IT_next_36 rfl (lv_at hl 1 rfl) ?_
    refine lv_aload_n hx hb d_IT_next_37 rfl (lv_at hl 0 rfl) ?_
    refine va_alen (v := 10) hx hb hK hP 2 0 rfl rfl (show Int32.ofNat 10 = 10 by decide) d_IT_next_38 ?_
    refine lv_icmp_lt (tgt := 50) hx hb d_IT_next_39 (by decide) (fun c_39 => ?_) (fun c_39 => ?_)
    · skip
      refine lv_aload_n hx hb d_IT_next_50 rfl (lv_at hl 2 rfl) ?_
      refine lv_iload_n hx hb d_IT_next_51 rfl (lv_at hl 1 rfl) ?_
      refine lv_iconst (v := 1) hx hb d_IT_next_52 (by decide) ?_
      refine lv_iadd hx hb d_IT_next_53 ?_
      refine lv_topi (fun x2 ex2 => ?_)
      refine va_put (D := (dC, dI)) (ci := 10) (v := .int x2) (ty := .int) (C := R_IT) (T := T_IT) (N := 4) hx hb hts in_IT_next_IT t_IT t_IT_ok n_IT hown hK hP hD hS 0 rfl rfl 0 (by decide) (hts (.fieldLink "java/util/ArrayList$Itr" 25 "java/util/ArrayList$Itr" "cursor" "I") (List.mem_of_getElem? (i := 17) rfl)) (fun _ h9 => h9) rfl (by decide +kernel) rfl rfl (Nat.le_of_ble_eq_true rfl) d_IT_next_54 (fun H locs hP hD hS => ?_)
      have hP : va_P (dC, dI) classes [(h1, .inr (10, [.int x2, .int lr, .int md, .ref h0])), (h0, .inr (9, [.int md, .ref ed, .int n])), (ed, .inl (cB, 10, .inr (.inr (.inr (.inr (f0))))))] H := hP
      have hD : va_D A [(h1, .inr (10, [.int x2, .int lr, .int md, .ref h0])), (h0, .inr (9, [.int md, .ref ed, .int n])), (ed, .inl (cB, 10, .inr (.inr (.inr (.inr (f0))))))] := hD
      refine lv_aload_n hx hb d_IT_next_57 rfl (lv_at hl 0 rfl) ?_
      refine lv_aload_n hx hb d_IT_next_58 rfl (lv_at hl 2 rfl) ?_
      refine lv_iload_n hx hb d_IT_next_59 rfl (lv_at hl 1 rfl) ?_
      refine lv_dup_x1 hx hb d_IT_next_60 rfl rfl ?_
      refine va_put (D := (dC, dI)) (ci := 10) (v := .int cu) (ty := .int) (C := R_IT) (T := T_IT) (N := 4) hx hb hts in_IT_next_IT t_IT t_IT_ok n_IT hown hK hP hD hS 0 rfl rfl 1 (by decide) (hts (.fieldLink "java/util/ArrayList$Itr" 13 "java/util/ArrayList$Itr" "lastRet" "I") (List.mem_of_getElem? (i := 19) rfl)) (fun _ h9 => h9) rfl (by decide +kernel) rfl rfl (Nat.le_of_ble_eq_true rfl) d_IT_next_61 (fun H locs hP hD hS => ?_)
      have hP : va_P (dC, dI) classes [(h1, .inr (10, [.int x2, .int cu, .int md, .ref h0])), (h0, .inr (9, [.int md, .ref ed, .int n])), (ed, .inl (cB, 10, .inr (.inr (.inr (.inr (f0))))))] H := hP
      have hD : va_D A [(h1, .inr (10, [.int x2, .int cu, .int md, .ref h0])), (h0, .inr (9, [.int md, .ref ed, .int n])), (ed, .inl (cB, 10, .inr (.inr (.inr (.inr (f0))))))] := hD
      refine va_aldq hx hb hK hP 2 0 rfl rfl (by rw [hci]; exact vp_in_nI (by omega) (by omega)) d_IT_next_64 ?_
      have hav : f0 (cu : Int32).toNatClampNeg = some e0 := by rw [hci, nI_clamp (by omega), hf]
      rw [hav]
      refine W.eq (g2 := F0 m 65 ls [.ref e0]) rfl ?_
      have hP9 : va_P (dC, dI) classes [(h1, .inr (10, [.int x2, .int cu, .int md, .ref h0])), (h0, .inr (9, [.int md, .ref ed, .int n])), (ed, .inl (cB, 10, .inr (.inr (.inr (.inr (f0))))))] H := hP.sub (ws' := [(h1, .inr (10, [.int x2, .int cu, .int md, .ref h0])), (h0, .inr (9, [.int md, .ref ed, .int n])), (ed, .inl (cB, 10, .inr (.inr (.inr (.inr (f0))))))]) [0, 1, 2] rfl
      have hD9 := hD.sub (ws' := [(h1, .inr (10, [.int x2, .int cu, .int md, .ref h0])), (h0, .inr (9, [.int md, .ref ed, .int n])), (ed, .inl (cB, 10, .inr (.inr (.inr (.inr (f0))))))]) [0, 1, 2] (by decide) rfl
      have hK9 := hK.sub (tys' := [(cB, .object "java/lang/Object")]) [0] rfl
      refine W.widen (k := 0) (n := 0) (by omega) (by omega) ?_
      exact W.aret hx hb hr (Or.inl ⟨_, rfl⟩) (Or.inr ⟨_, rfl⟩) (fun t ht hW => ⟨⟨(), _, rfl, trivial, ⟨x2, ⟨by rw [ht]; exact hP9, va_K.moved hW.alike hK9, hD9, rfl, (by rw [ex2, hci]; exact nI_1 i)⟩⟩⟩, hS.F ht⟩) hS.2.2 d_IT_next_65
    · exact absurd (by rw [hci]; exact (show nI i < nI 10 from nI_lt (by omega) (by omega))) c_39
  · exact absurd (by rw [hci, hnk]; exact nI_lt hik (by omega)) c_17

abbrev rm_IN_valueOf : Room := { frames := 0, cells := 0, slots := 0, locals := 0 }
abbrev b_IN_valueOf : ByteArray := prog_27_method_22_code
def y_IN_valueOf : MethodName := ⟨"java/lang/Integer", "valueOf", "(I)Ljava/lang/Integer;"⟩
def w_IN_valueOf : List Cond := [.code ⟨"java/lang/Integer", "valueOf", "(I)Ljava/lang/Integer;"⟩ prog_27_method_22_code 1 (some (.object "java/lang/Integer")), .fieldLink "java/lang/Integer" 191 "java/lang/Integer$IntegerCache" "high" "I", .fieldLink "java/lang/Integer" 195 "java/lang/Integer$IntegerCache" "cache" "[Ljava/lang/Integer;"]
theorem d_IN_valueOf_0 : decode b_IN_valueOf 0 = .ok (.iload_n 0, 1) := by decide +kernel
theorem d_IN_valueOf_1 : decode b_IN_valueOf 1 = .ok (.bipush (-128), 2) := by decide +kernel
theorem d_IN_valueOf_3 : decode b_IN_valueOf 3 = .ok (.if_icmp .lt 20, 3) := by decide +kernel
theorem d_IN_valueOf_6 : decode b_IN_valueOf 6 = .ok (.iload_n 0, 1) := by decide +kernel
theorem d_IN_valueOf_7 : decode b_IN_valueOf 7 = .ok (.getstatic 191, 3) := by decide +kernel
theorem d_IN_valueOf_10 : decode b_IN_valueOf 10 = .ok (.if_icmp .gt 13, 3) := by decide +kernel
theorem d_IN_valueOf_13 : decode b_IN_valueOf 13 = .ok (.getstatic 195, 3) := by decide +kernel
theorem d_IN_valueOf_16 : decode b_IN_valueOf 16 = .ok (.iload_n 0, 1) := by decide +kernel
theorem d_IN_valueOf_17 : decode b_IN_valueOf 17 = .ok (.sipush 128, 3) := by decide +kernel
theorem d_IN_valueOf_20 : decode b_IN_valueOf 20 = .ok (.iadd, 1) := by decide +kernel
theorem d_IN_valueOf_21 : decode b_IN_valueOf 21 = .ok (.aaload, 1) := by decide +kernel
theorem d_IN_valueOf_22 : decode b_IN_valueOf 22 = .ok (.areturn, 1) := by decide +kernel
set_option maxHeartbeats 4000000 in
set_option maxRecDepth 100000 in
theorem c_IN_valueOf (l : Launch) (ca : Nat) (fca : Nat → Value) (e0 : Nat) (hca : fca 174 = .ref e0) : Met l y_IN_valueOf w_IN_valueOf rm_IN_valueOf (va_Pc [.int 46] (fun U => va_Z "java/lang/Integer$IntegerCache" "high" "I" (.int 127) (fun _ => False) U U.heap ∧ va_Z "java/lang/Integer$IntegerCache" "cache" "[Ljava/lang/Integer;" (.ref ca) (fun _ => False) U U.heap ∧ va_T (.object "java/lang/Integer") ca 256 fca (fun _ => False) U U.heap)) (va_Sr (fun r => r = e0) Value.ref) 0 0 (fun _ => False) := by
  refine Met.ofW (cc := b_IN_valueOf) (maxL := 1) (ret := (some (.object "java/lang/Integer"))) (by decide) rfl ?_
  intro p e s m args below meth c s₁ B hml hv
  obtain ⟨rfl, hE0, hE1, hE2⟩ := hv
  have hx := B.exec
  have hb := B.bytes
  have hr := B.returns
  have hts := atoms_spec (ws := w_IN_valueOf) B.pre
  have hown : s.vm.findClass "java/lang/Integer" = some m.cls := findClass_of_methodNamed B.named
  have hlocks := B.notSynchronized
  have hl := lv_entry ([.int 46]) (n := 1) (Nat.le_of_ble_eq_true rfl)
  rw [lg_entry_eq]
  generalize (lg_sl ([.int 46]) ++ List.replicate (1 - (lg_sl ([.int 46])).length) Slot.unset).toArray = ls at hl ⊢
  have hl : lv_has ls 1 [(0, .int 46)] := hl
  refine lv_iload_n hx hb d_IN_valueOf_0 rfl (lv_at hl 0 rfl) ?_
  refine lv_bipush (v := (-128)) hx hb d_IN_valueOf_1 (by decide) ?_
  refine lv_icmp_lt (tgt := 23) hx hb d_IN_valueOf_3 (by decide) (fun c_3 => ?_) (fun c_3 => ?_)
  · exact absurd c_3 (by decide)
  · skip
    refine lv_iload_n hx hb d_IN_valueOf_6 rfl (lv_at hl 0 rfl) ?_
    refine va_gets (v := .int 127) hx hb hE0 (va_S.rf (A := fun _ => False)) hown (hts (.fieldLink "java/lang/Integer" 191 "java/lang/Integer$IntegerCache" "high" "I") (List.mem_of_getElem? (i := 1) rfl)) (fun _ h9 => h9) d_IN_valueOf_7 ?_
    refine lv_icmp_gt (tgt := 23) hx hb d_IN_valueOf_10 (by decide) (fun c_10 => ?_) (fun c_10 => ?_)
    · exact absurd c_10 (by decide)
    · skip
      refine va_gets (v := .ref ca) hx hb hE1 (va_S.rf (A := fun _ => False)) hown (hts (.fieldLink "java/lang/Integer" 195 "java/lang/Integer$IntegerCache" "cache" "[Ljava/lang/Integer;") (List.mem_of_getElem? (i := 2) rfl)) (fun _ h9 => h9) d_IN_valueOf_13 ?_
      refine lv_iload_n hx hb d_IN_valueOf_16 rfl (lv_at hl 0 rfl) ?_
      refine lv_sipush (v := 128) hx hb d_IN_valueOf_17 (by decide) ?_
      refine lv_iadd hx hb d_IN_valueOf_20 ?_
      refine lv_topi (fun x1 ex1 => ?_)
      obtain rfl : 174 = x1 := Eq.symm (by rw [ex1]; decide)
      refine vb_tq (v := .ref e0) hx hb hE2 (va_S.rf (A := fun _ => False)) (by unfold vp_in; decide) (by rw [show (174 : Int32).toNatClampNeg = 174 by decide]; exact hca) d_IN_valueOf_21 ?_
      exact W.aret hx hb hr (Or.inl ⟨_, rfl⟩) (Or.inr ⟨_, rfl⟩) (fun t ht hW => ⟨_, rfl, rfl, ht⟩) (fun _ h => by cases h) d_IN_valueOf_22

abbrev rm_IN_intValue : Room := { frames := 0, cells := 0, slots := 0, locals := 0 }
abbrev b_IN_intValue : ByteArray := prog_27_method_27_code
def y_IN_intValue : MethodName := ⟨"java/lang/Integer", "intValue", "()I"⟩
def w_IN_intValue : List Cond := [.code ⟨"java/lang/Integer", "intValue", "()I"⟩ prog_27_method_27_code 1 (some .int), .fieldLink "java/lang/Integer" 205 "java/lang/Integer" "value" "I"]
theorem d_IN_intValue_0 : decode b_IN_intValue 0 = .ok (.aload_n 0, 1) := by decide +kernel
theorem d_IN_intValue_1 : decode b_IN_intValue 1 = .ok (.getfield 205, 3) := by decide +kernel
theorem d_IN_intValue_4 : decode b_IN_intValue 4 = .ok (.ireturn, 1) := by decide +kernel
set_option maxHeartbeats 4000000 in
set_option maxRecDepth 100000 in
theorem c_IN_intValue (l : Launch) (e0 : Nat) : Met l y_IN_intValue w_IN_intValue rm_IN_intValue (va_Pc [.ref e0] (fun U => va_OF "java/lang/Integer" "value" "I" (.int 46) e0 (fun _ => False) U U.heap)) (vp_Si (fun r => r = 46)) 0 0 (fun _ => False) := by
  refine Met.ofW (cc := b_IN_intValue) (maxL := 1) (ret := (some .int)) (by decide) rfl ?_
  intro p e s m args below meth c s₁ B hml hv
  obtain ⟨rfl, hE0⟩ := hv
  have hx := B.exec
  have hb := B.bytes
  have hr := B.returns
  have hts := atoms_spec (ws := w_IN_intValue) B.pre
  have hown : s.vm.findClass "java/lang/Integer" = some m.cls := findClass_of_methodNamed B.named
  have hlocks := B.notSynchronized
  have hl := lv_entry ([.ref e0]) (n := 1) (Nat.le_of_ble_eq_true rfl)
  rw [lg_entry_eq]
  generalize (lg_sl ([.ref e0]) ++ List.replicate (1 - (lg_sl ([.ref e0])).length) Slot.unset).toArray = ls at hl ⊢
  have hl : lv_has ls 1 [(0, .ref e0)] := hl
  refine lv_aload_n hx hb d_IN_intValue_0 rfl (lv_at hl 0 rfl) ?_
  refine vk_getf (v := .int 46) hx hb hE0 (va_S.rf (A := fun _ => False)) hown (hts (.fieldLink "java/lang/Integer" 205 "java/lang/Integer" "value" "I") (List.mem_of_getElem? (i := 1) rfl)) (fun _ h9 => h9) d_IN_intValue_1 ?_
  exact W.iret hx hb hr (fun t ht hW => ⟨_, rfl, rfl, ht⟩) (fun _ h => by cases h) d_IN_intValue_4
end
section
abbrev rm_in_ : Room := { frames := 0, cells := 0, slots := 0, locals := 0 }
abbrev b_in_ : ByteArray := prog_11_method_3_code
def y_in_ : MethodName := ⟨"LeastcodeModel", "in", "(III)Z"⟩
def w_in_ : List Cond := [.code ⟨"LeastcodeModel", "in", "(III)Z"⟩ prog_11_method_3_code 3 (some .boolean)]
theorem d_in__0 : decode b_in_ 0 = .ok (.iload_n 0, 1) := by decide +kernel
theorem d_in__1 : decode b_in_ 1 = .ok (.iload_n 1, 1) := by decide +kernel
theorem d_in__2 : decode b_in_ 2 = .ok (.if_icmp .lt 12, 3) := by decide +kernel
theorem d_in__5 : decode b_in_ 5 = .ok (.iload_n 0, 1) := by decide +kernel
theorem d_in__6 : decode b_in_ 6 = .ok (.iload_n 2, 1) := by decide +kernel
theorem d_in__7 : decode b_in_ 7 = .ok (.if_icmp .gt 7, 3) := by decide +kernel
theorem d_in__10 : decode b_in_ 10 = .ok (.iconst 1, 1) := by decide +kernel
theorem d_in__11 : decode b_in_ 11 = .ok (.goto 4, 3) := by decide +kernel
theorem d_in__15 : decode b_in_ 15 = .ok (.ireturn, 1) := by decide +kernel
set_option maxHeartbeats 4000000 in
set_option maxRecDepth 100000 in
theorem c_in_ (l : Launch) (x : Int32) (y : Int32) (z : Int32) (h1 : ¬ x < y) (h2 : ¬ z < x) : Met l y_in_ w_in_ rm_in_ (va_Pc [.int x, .int y, .int z] (fun U => True)) (vp_Si (fun r => r = 1)) 0 0 (fun _ => False) := by
  refine Met.ofW (cc := b_in_) (maxL := 3) (ret := (some .boolean)) (by decide) rfl ?_
  intro p e s m args below meth c s₁ B hml hv
  obtain ⟨rfl, -⟩ := hv
  have hx := B.exec
  have hb := B.bytes
  have hr := B.returns
  have hts := atoms_spec (ws := w_in_) B.pre
  have hown : s.vm.findClass "LeastcodeModel" = some m.cls := findClass_of_methodNamed B.named
  have hlocks := B.notSynchronized
  have hl := lv_entry ([.int x, .int y, .int z]) (n := 3) (Nat.le_of_ble_eq_true rfl)
  rw [lg_entry_eq]
  generalize (lg_sl ([.int x, .int y, .int z]) ++ List.replicate (3 - (lg_sl ([.int x, .int y, .int z])).length) Slot.unset).toArray = ls at hl ⊢
  have hl : lv_has ls 3 [(0, .int x), (1, .int y), (2, .int z)] := hl
  refine lv_iload_n hx hb d_in__0 rfl (lv_at hl 0 rfl) ?_
  refine lv_iload_n hx hb d_in__1 rfl (lv_at hl 1 rfl) ?_
  refine lv_icmp_lt (tgt := 14) hx hb d_in__2 (by decide) (fun c_2 => ?_) (fun c_2 => ?_)
  · exact absurd c_2 h1
  · skip
    refine lv_iload_n hx hb d_in__5 rfl (lv_at hl 0 rfl) ?_
    refine lv_iload_n hx hb d_in__6 rfl (lv_at hl 2 rfl) ?_
    refine lv_icmp_gt (tgt := 14) hx hb d_in__7 (by decide) (fun c_7 => ?_) (fun c_7 => ?_)
    · exact absurd c_7 h2
    · skip
      refine lv_iconst (v := 1) hx hb d_in__10 (by decide) ?_
      refine lv_goto (tgt := 15) hx hb d_in__11 (by decide) ?_
      exact W.zret hx hb hr rfl (fun t ht hW => ⟨_, rfl, rfl, ht⟩) (fun _ h => by cases h) d_in__15

abbrev rm_isOf : Room := { frames := 1, cells := 0, slots := 0, locals := 22 }
abbrev b_isOf : ByteArray := prog_11_method_7_code
def y_isOf : MethodName := ⟨"LeastcodeModel", "isOf", "(Ljava/util/List;I)Z"⟩
def w_isOf : List Cond := [.code ⟨"LeastcodeModel", "isOf", "(Ljava/util/List;I)Z"⟩ prog_11_method_7_code 2 (some .boolean), .methodLink "LeastcodeModel" 58 ⟨"java/util/List", "size", "()I"⟩, .selects "java/util/ArrayList" ⟨"java/util/List", "size", "()I"⟩ ⟨"java/util/ArrayList", "size", "()I"⟩, .instanceMethod ⟨"java/util/ArrayList", "size", "()I"⟩, .initialized "java/util/ArrayList", .code ⟨"java/util/ArrayList", "size", "()I"⟩ prog_50_method_8_code 1 (some .int), .lays "java/util/ArrayList" "java/util/AbstractList" "modCount" "I", .lays "java/util/ArrayList" "java/util/ArrayList" "elementData" "[Ljava/lang/Object;", .lays "java/util/ArrayList" "java/util/ArrayList" "size" "I", .fieldLink "java/util/ArrayList" 48 "java/util/ArrayList" "size" "I", .methodLink "LeastcodeModel" 63 ⟨"LeastcodeModel", "in", "(III)Z"⟩, .static ⟨"LeastcodeModel", "in", "(III)Z"⟩, .initialized "LeastcodeModel", .code ⟨"LeastcodeModel", "in", "(III)Z"⟩ prog_11_method_3_code 3 (some .boolean)]
theorem d_isOf_0 : decode b_isOf 0 = .ok (.iload_n 1, 1) := by decide +kernel
theorem d_isOf_1 : decode b_isOf 1 = .ok (.iconst 0, 1) := by decide +kernel
theorem d_isOf_2 : decode b_isOf 2 = .ok (.aload_n 0, 1) := by decide +kernel
theorem d_isOf_3 : decode b_isOf 3 = .ok (.invokeinterface 58 1, 5) := by decide +kernel
theorem d_isOf_8 : decode b_isOf 8 = .ok (.iconst 1, 1) := by decide +kernel
theorem d_isOf_9 : decode b_isOf 9 = .ok (.isub, 1) := by decide +kernel
theorem d_isOf_10 : decode b_isOf 10 = .ok (.invokestatic 63, 3) := by decide +kernel
theorem d_isOf_13 : decode b_isOf 13 = .ok (.ireturn, 1) := by decide +kernel
set_option maxRecDepth 20000 in
theorem g_isOf_3 : GoodIn w_isOf (va_wsF "LeastcodeModel" 58 "java/util/ArrayList" ⟨"java/util/List", "size", "()I"⟩ ⟨"java/util/ArrayList", "size", "()I"⟩ w_AL_size) := goodIn_r _ [1, 2, 3, 4, 5, 6, 7, 8, 9] rfl (by decide +kernel)
set_option maxRecDepth 20000 in
theorem g_isOf_10 : GoodIn w_isOf (wsS "LeastcodeModel" 63 ⟨"LeastcodeModel", "in", "(III)Z"⟩ w_in_) := goodIn_r _ [10, 11, 12, 13] rfl (by decide +kernel)
set_option maxHeartbeats 4000000 in
set_option maxRecDepth 100000 in
theorem c_isOf (l : Launch) (dC : Nat → ClassId) (dI : Nat → Nat → Nat) (h0 : Nat) (md : Int32) (ed : Nat) : Met l y_isOf w_isOf rm_isOf (va_Pc [.ref h0, .int 0] (fun U => va_P (dC, dI) classes [(h0, .inr (9, [.int md, .ref ed, .int 1]))] U.heap ∧ va_K (dC, dI) classes [] U ∧ va_Fw "java/util/ArrayList" ⟨"java/util/List", "size", "()I"⟩ ⟨"java/util/ArrayList", "size", "()I"⟩ U)) (vp_Si (fun r => r = 1)) 0 0 (fun _ => False) := by
  refine Met.ofW (cc := b_isOf) (maxL := 2) (ret := (some .boolean)) (by decide) rfl ?_
  intro p e s m args below meth c s₁ B hml hv
  obtain ⟨rfl, hP, hK, hE0⟩ := hv
  have hx := B.exec
  have hb := B.bytes
  have hr := B.returns
  have hts := atoms_spec (ws := w_isOf) B.pre
  have hown : s.vm.findClass "LeastcodeModel" = some m.cls := findClass_of_methodNamed B.named
  have hlocks := B.notSynchronized
  have hP : va_P (dC, dI) classes [(h0, .inr (9, [.int md, .ref ed, .int 1]))] s.heap := hP
  have hl := lv_entry ([.ref h0, .int 0]) (n := 2) (Nat.le_of_ble_eq_true rfl)
  rw [lg_entry_eq]
  generalize (lg_sl ([.ref h0, .int 0]) ++ List.replicate (2 - (lg_sl ([.ref h0, .int 0])).length) Slot.unset).toArray = ls at hl ⊢
  have hl : lv_has ls 2 [(0, .ref h0), (1, .int 0)] := hl
  refine lv_iload_n hx hb d_isOf_0 rfl (lv_at hl 1 rfl) ?_
  refine lv_iconst (v := 0) hx hb d_isOf_1 (by decide) ?_
  refine lv_aload_n hx hb d_isOf_2 rfl (lv_at hl 0 rfl) ?_
  have hPc : va_P (dC, dI) classes [(h0, .inr (9, [.int md, .ref ed, .int 1]))] _ := hP.sub (ws' := [(h0, .inr (9, [.int md, .ref ed, .int 1]))]) [0] rfl
  have hKc : va_K (dC, dI) classes [] s := hK.sub (tys' := []) [] rfl
  refine va_csFi (va_runF (As := []) (rest := [.int 0, .int 0]) (hKc.1 9 _ rfl).2 ⟨hx, hb, hml, hown, hts⟩ (c_AL_size l dC dI h0 md ed 1) (va_cwF 0 hts g_isOf_3 rfl rfl rfl hE0 (by decide +kernel) ⟨Nat.le_of_ble_eq_true rfl, Nat.le_of_ble_eq_true rfl⟩) ⟨fun a U g mk z => by obtain ⟨z0, zP, zK⟩ := z; exact ⟨z0, zP, va_K.moved (u := U) (U := U.calling g mk a) (Vm.Alike.refl U.vm) zK⟩, va_recv hKc hPc (ci := 9) (q0 := 0) rfl rfl, fun U hU hW => ⟨rfl, by rw [hU]; exact hPc, va_K.moved hW.alike hKc⟩⟩ rfl rfl hl.1 rfl (lv_room (Nat.le_of_ble_eq_true rfl)) d_isOf_3 ⟨(Nat.le_of_ble_eq_true rfl), (Nat.le_of_ble_eq_true rfl)⟩) (fun r1 hr1 => ?_)
  replace hr1 := hr1.symm; subst hr1
  refine lv_iconst (v := 1) hx hb d_isOf_8 (by decide) ?_
  refine lv_isub hx hb d_isOf_9 ?_
  refine lv_topi (fun x2 ex2 => ?_)
  obtain rfl : 0 = x2 := Eq.symm (by rw [ex2]; decide)
  refine vp_callSi (W.runS (As := [.int 0, .int 0, .int 0]) (rest := []) ⟨hx, hb, hml, hown, hts⟩ (c_in_ l 0 0 0 (by decide) (by decide)) (cwS 3 hts g_isOf_10 rfl rfl rfl (by decide +kernel) ⟨Nat.le_of_ble_eq_true rfl, Nat.le_of_ble_eq_true rfl⟩) ⟨fun a U g mk z => z, fun U hU hW => ⟨rfl, trivial⟩⟩ rfl rfl hl.1 rfl (lv_room (Nat.le_of_ble_eq_true rfl)) d_isOf_10 ⟨(Nat.le_of_ble_eq_true rfl), (Nat.le_of_ble_eq_true rfl)⟩) (fun r3 hr3 => ?_)
  replace hr3 := hr3.symm; subst hr3
  exact W.zret hx hb hr rfl (fun t ht hW => ⟨_, rfl, rfl, ht⟩) (fun _ h => by cases h) d_isOf_13

abbrev rm_first : Room := { frames := 0, cells := 0, slots := 0, locals := 0 }
abbrev b_first : ByteArray := prog_11_method_9_code
def y_first : MethodName := ⟨"LeastcodeModel", "first", "(I)I"⟩
def w_first : List Cond := [.code ⟨"LeastcodeModel", "first", "(I)I"⟩ prog_11_method_9_code 1 (some .int)]
theorem d_first_0 : decode b_first 0 = .ok (.iload_n 0, 1) := by decide +kernel
theorem d_first_1 : decode b_first 1 = .ok (.bipush 32, 2) := by decide +kernel
theorem d_first_3 : decode b_first 3 = .ok (.if_icmp .ge 11, 3) := by decide +kernel
theorem d_first_14 : decode b_first 14 = .ok (.iload_n 0, 1) := by decide +kernel
theorem d_first_15 : decode b_first 15 = .ok (.bipush 46, 2) := by decide +kernel
theorem d_first_17 : decode b_first 17 = .ok (.if_icmp .ge 9, 3) := by decide +kernel
theorem d_first_26 : decode b_first 26 = .ok (.iconst (-1), 1) := by decide +kernel
theorem d_first_27 : decode b_first 27 = .ok (.ireturn, 1) := by decide +kernel
set_option maxHeartbeats 4000000 in
set_option maxRecDepth 100000 in
theorem c_first (l : Launch)  : Met l y_first w_first rm_first (va_Pc [.int 46] (fun U => True)) (vp_Si (fun r => r = -1)) 0 0 (fun _ => False) := by
  refine Met.ofW (cc := b_first) (maxL := 1) (ret := (some .int)) (by decide) rfl ?_
  intro p e s m args below meth c s₁ B hml hv
  obtain ⟨rfl, -⟩ := hv
  have hx := B.exec
  have hb := B.bytes
  have hr := B.returns
  have hts := atoms_spec (ws := w_first) B.pre
  have hown : s.vm.findClass "LeastcodeModel" = some m.cls := findClass_of_methodNamed B.named
  have hlocks := B.notSynchronized
  have hl := lv_entry ([.int 46]) (n := 1) (Nat.le_of_ble_eq_true rfl)
  rw [lg_entry_eq]
  generalize (lg_sl ([.int 46]) ++ List.replicate (1 - (lg_sl ([.int 46])).length) Slot.unset).toArray = ls at hl ⊢
  have hl : lv_has ls 1 [(0, .int 46)] := hl
  refine lv_iload_n hx hb d_first_0 rfl (lv_at hl 0 rfl) ?_
  refine lv_bipush (v := 32) hx hb d_first_1 (by decide) ?_
  refine lv_icmp_ge (tgt := 14) hx hb d_first_3 (by decide) (fun c_3 => ?_) (fun c_3 => ?_)
  · skip
    refine lv_iload_n hx hb d_first_14 rfl (lv_at hl 0 rfl) ?_
    refine lv_bipush (v := 46) hx hb d_first_15 (by decide) ?_
    refine lv_icmp_ge (tgt := 26) hx hb d_first_17 (by decide) (fun c_17 => ?_) (fun c_17 => ?_)
    · skip
      refine lv_iconst (v := (-1)) hx hb d_first_26 (by decide) ?_
      exact W.iret hx hb hr (fun t ht hW => ⟨_, rfl, rfl, ht⟩) (fun _ h => by cases h) d_first_27
    · exact absurd (by decide) c_17
  · exact absurd (by decide) c_3

abbrev rm_second : Room := { frames := 0, cells := 0, slots := 0, locals := 0 }
abbrev b_second : ByteArray := prog_11_method_10_code
def y_second : MethodName := ⟨"LeastcodeModel", "second", "(I)I"⟩
def w_second : List Cond := [.code ⟨"LeastcodeModel", "second", "(I)I"⟩ prog_11_method_10_code 1 (some .int)]
theorem d_second_0 : decode b_second 0 = .ok (.iload_n 0, 1) := by decide +kernel
theorem d_second_1 : decode b_second 1 = .ok (.bipush 32, 2) := by decide +kernel
theorem d_second_3 : decode b_second 3 = .ok (.if_icmp .ge 9, 3) := by decide +kernel
theorem d_second_12 : decode b_second 12 = .ok (.iconst (-1), 1) := by decide +kernel
theorem d_second_13 : decode b_second 13 = .ok (.ireturn, 1) := by decide +kernel
set_option maxHeartbeats 4000000 in
set_option maxRecDepth 100000 in
theorem c_second (l : Launch)  : Met l y_second w_second rm_second (va_Pc [.int 46] (fun U => True)) (vp_Si (fun r => r = -1)) 0 0 (fun _ => False) := by
  refine Met.ofW (cc := b_second) (maxL := 1) (ret := (some .int)) (by decide) rfl ?_
  intro p e s m args below meth c s₁ B hml hv
  obtain ⟨rfl, -⟩ := hv
  have hx := B.exec
  have hb := B.bytes
  have hr := B.returns
  have hts := atoms_spec (ws := w_second) B.pre
  have hown : s.vm.findClass "LeastcodeModel" = some m.cls := findClass_of_methodNamed B.named
  have hlocks := B.notSynchronized
  have hl := lv_entry ([.int 46]) (n := 1) (Nat.le_of_ble_eq_true rfl)
  rw [lg_entry_eq]
  generalize (lg_sl ([.int 46]) ++ List.replicate (1 - (lg_sl ([.int 46])).length) Slot.unset).toArray = ls at hl ⊢
  have hl : lv_has ls 1 [(0, .int 46)] := hl
  refine lv_iload_n hx hb d_second_0 rfl (lv_at hl 0 rfl) ?_
  refine lv_bipush (v := 32) hx hb d_second_1 (by decide) ?_
  refine lv_icmp_ge (tgt := 12) hx hb d_second_3 (by decide) (fun c_3 => ?_) (fun c_3 => ?_)
  · skip
    refine lv_iconst (v := (-1)) hx hb d_second_12 (by decide) ?_
    exact W.iret hx hb hr (fun t ht hW => ⟨_, rfl, rfl, ht⟩) (fun _ h => by cases h) d_second_13
  · exact absurd (by decide) c_3

abbrev rm_kind : Room := { frames := 0, cells := 0, slots := 0, locals := 0 }
abbrev b_kind : ByteArray := prog_11_method_8_code
def y_kind : MethodName := ⟨"LeastcodeModel", "kind", "(I)C"⟩
def w_kind : List Cond := [.code ⟨"LeastcodeModel", "kind", "(I)C"⟩ prog_11_method_8_code 1 (some .char)]
theorem d_kind_0 : decode b_kind 0 = .ok (.iload_n 0, 1) := by decide +kernel
theorem d_kind_1 : decode b_kind 1 = .ok (.bipush 32, 2) := by decide +kernel
theorem d_kind_3 : decode b_kind 3 = .ok (.if_icmp .ge 14, 3) := by decide +kernel
theorem d_kind_17 : decode b_kind 17 = .ok (.iload_n 0, 1) := by decide +kernel
theorem d_kind_18 : decode b_kind 18 = .ok (.bipush 46, 2) := by decide +kernel
theorem d_kind_20 : decode b_kind 20 = .ok (.if_icmp .ge 17, 3) := by decide +kernel
theorem d_kind_37 : decode b_kind 37 = .ok (.bipush 102, 2) := by decide +kernel
theorem d_kind_39 : decode b_kind 39 = .ok (.ireturn, 1) := by decide +kernel
set_option maxHeartbeats 4000000 in
set_option maxRecDepth 100000 in
theorem c_kind (l : Launch)  : Met l y_kind w_kind rm_kind (va_Pc [.int 46] (fun U => True)) (vp_Si (fun r => r = 102)) 0 0 (fun _ => False) := by
  refine Met.ofW (cc := b_kind) (maxL := 1) (ret := (some .char)) (by decide) rfl ?_
  intro p e s m args below meth c s₁ B hml hv
  obtain ⟨rfl, -⟩ := hv
  have hx := B.exec
  have hb := B.bytes
  have hr := B.returns
  have hts := atoms_spec (ws := w_kind) B.pre
  have hown : s.vm.findClass "LeastcodeModel" = some m.cls := findClass_of_methodNamed B.named
  have hlocks := B.notSynchronized
  have hl := lv_entry ([.int 46]) (n := 1) (Nat.le_of_ble_eq_true rfl)
  rw [lg_entry_eq]
  generalize (lg_sl ([.int 46]) ++ List.replicate (1 - (lg_sl ([.int 46])).length) Slot.unset).toArray = ls at hl ⊢
  have hl : lv_has ls 1 [(0, .int 46)] := hl
  refine lv_iload_n hx hb d_kind_0 rfl (lv_at hl 0 rfl) ?_
  refine lv_bipush (v := 32) hx hb d_kind_1 (by decide) ?_
  refine lv_icmp_ge (tgt := 17) hx hb d_kind_3 (by decide) (fun c_3 => ?_) (fun c_3 => ?_)
  · skip
    refine lv_iload_n hx hb d_kind_17 rfl (lv_at hl 0 rfl) ?_
    refine lv_bipush (v := 46) hx hb d_kind_18 (by decide) ?_
    refine lv_icmp_ge (tgt := 37) hx hb d_kind_20 (by decide) (fun c_20 => ?_) (fun c_20 => ?_)
    · skip
      refine lv_bipush (v := 102) hx hb d_kind_37 (by decide) ?_
      exact W.zret hx hb hr rfl (fun t ht hW => ⟨_, rfl, rfl, ht⟩) (fun _ h => by cases h) d_kind_39
    · exact absurd (by decide) c_20
  · exact absurd (by decide) c_3

abbrev rm_state : Room := { frames := 0, cells := 0, slots := 0, locals := 0 }
abbrev b_state : ByteArray := prog_11_method_12_code
def y_state : MethodName := ⟨"LeastcodeModel", "state", "([II)I"⟩
def w_state : List Cond := [.code ⟨"LeastcodeModel", "state", "([II)I"⟩ prog_11_method_12_code 2 (some .int)]
theorem d_state_0 : decode b_state 0 = .ok (.bipush 16, 2) := by decide +kernel
theorem d_state_2 : decode b_state 2 = .ok (.aload_n 0, 1) := by decide +kernel
theorem d_state_3 : decode b_state 3 = .ok (.iconst 0, 1) := by decide +kernel
theorem d_state_4 : decode b_state 4 = .ok (.iaload, 1) := by decide +kernel
theorem d_state_5 : decode b_state 5 = .ok (.imul, 1) := by decide +kernel
theorem d_state_6 : decode b_state 6 = .ok (.iconst 2, 1) := by decide +kernel
theorem d_state_7 : decode b_state 7 = .ok (.aload_n 0, 1) := by decide +kernel
theorem d_state_8 : decode b_state 8 = .ok (.iconst 1, 1) := by decide +kernel
theorem d_state_9 : decode b_state 9 = .ok (.iaload, 1) := by decide +kernel
theorem d_state_10 : decode b_state 10 = .ok (.imul, 1) := by decide +kernel
theorem d_state_11 : decode b_state 11 = .ok (.iadd, 1) := by decide +kernel
theorem d_state_12 : decode b_state 12 = .ok (.iload_n 1, 1) := by decide +kernel
theorem d_state_13 : decode b_state 13 = .ok (.iadd, 1) := by decide +kernel
theorem d_state_14 : decode b_state 14 = .ok (.ireturn, 1) := by decide +kernel
set_option maxHeartbeats 4000000 in
set_option maxRecDepth 100000 in
theorem c_state (l : Launch) (dC : Nat → ClassId) (dI : Nat → Nat → Nat) (q0 : Nat) (cI : ClassId) (fq : Nat → Int32) (x : Int32) : Met l y_state w_state rm_state (va_Pc [.ref q0, .int x] (fun U => va_P (dC, dI) classes [(q0, .inl (cI, 2, .inl (fq)))] U.heap ∧ va_K (dC, dI) classes [(cI, .int)] U)) (vp_Si (fun r => True)) 0 0 (fun _ => False) := by
  refine Met.ofW (cc := b_state) (maxL := 2) (ret := (some .int)) (by decide) rfl ?_
  intro p e s m args below meth c s₁ B hml hv
  obtain ⟨rfl, hP, hK⟩ := hv
  have hx := B.exec
  have hb := B.bytes
  have hr := B.returns
  have hts := atoms_spec (ws := w_state) B.pre
  have hown : s.vm.findClass "LeastcodeModel" = some m.cls := findClass_of_methodNamed B.named
  have hlocks := B.notSynchronized
  have hP : va_P (dC, dI) classes [(q0, .inl (cI, 2, .inl (fq)))] s.heap := hP
  have hl := lv_entry ([.ref q0, .int x]) (n := 2) (Nat.le_of_ble_eq_true rfl)
  rw [lg_entry_eq]
  generalize (lg_sl ([.ref q0, .int x]) ++ List.replicate (2 - (lg_sl ([.ref q0, .int x])).length) Slot.unset).toArray = ls at hl ⊢
  have hl : lv_has ls 2 [(0, .ref q0), (1, .int x)] := hl
  refine lv_bipush (v := 16) hx hb d_state_0 (by decide) ?_
  refine lv_aload_n hx hb d_state_2 rfl (lv_at hl 0 rfl) ?_
  refine lv_iconst (v := 0) hx hb d_state_3 (by decide) ?_
  refine va_iald hx hb hK hP 0 0 rfl rfl (by unfold vp_in; decide) d_state_4 ?_
  refine lv_topi (fun x1 ex1 => ?_)
  refine lv_imul hx hb d_state_5 ?_
  refine lv_topi (fun x2 ex2 => ?_)
  refine lv_iconst (v := 2) hx hb d_state_6 (by decide) ?_
  refine lv_aload_n hx hb d_state_7 rfl (lv_at hl 0 rfl) ?_
  refine lv_iconst (v := 1) hx hb d_state_8 (by decide) ?_
  refine va_iald hx hb hK hP 0 0 rfl rfl (by unfold vp_in; decide) d_state_9 ?_
  refine lv_topi (fun x3 ex3 => ?_)
  refine lv_imul hx hb d_state_10 ?_
  refine lv_topi (fun x4 ex4 => ?_)
  refine lv_iadd hx hb d_state_11 ?_
  refine lv_topi (fun x5 ex5 => ?_)
  refine lv_iload_n hx hb d_state_12 rfl (lv_at hl 1 rfl) ?_
  refine lv_iadd hx hb d_state_13 ?_
  refine lv_topi (fun x6 ex6 => ?_)
  exact W.iret hx hb hr (fun t ht hW => ⟨_, rfl, trivial, ht⟩) (fun _ h => by cases h) d_state_14

abbrev rm_mstep : Room := { frames := 1, cells := 1, slots := 2, locals := 21 }
abbrev b_mstep : ByteArray := prog_11_method_13_code
def y_mstep : MethodName := ⟨"LeastcodeModel", "step", "(II)I"⟩
def w_mstep : List Cond := [.code ⟨"LeastcodeModel", "step", "(II)I"⟩ prog_11_method_13_code 7 (some .int), .arrayClass .int, .methodLink "LeastcodeModel" 79 ⟨"LeastcodeModel", "first", "(I)I"⟩, .static ⟨"LeastcodeModel", "first", "(I)I"⟩, .initialized "LeastcodeModel", .code ⟨"LeastcodeModel", "first", "(I)I"⟩ prog_11_method_9_code 1 (some .int), .methodLink "LeastcodeModel" 82 ⟨"LeastcodeModel", "second", "(I)I"⟩, .static ⟨"LeastcodeModel", "second", "(I)I"⟩, .code ⟨"LeastcodeModel", "second", "(I)I"⟩ prog_11_method_10_code 1 (some .int), .methodLink "LeastcodeModel" 85 ⟨"LeastcodeModel", "kind", "(I)C"⟩, .static ⟨"LeastcodeModel", "kind", "(I)C"⟩, .code ⟨"LeastcodeModel", "kind", "(I)C"⟩ prog_11_method_8_code 1 (some .char), .methodLink "LeastcodeModel" 94 ⟨"LeastcodeModel", "state", "([II)I"⟩, .static ⟨"LeastcodeModel", "state", "([II)I"⟩, .code ⟨"LeastcodeModel", "state", "([II)I"⟩ prog_11_method_12_code 2 (some .int)]
theorem d_mstep_0 : decode b_mstep 0 = .ok (.iconst 2, 1) := by decide +kernel
theorem d_mstep_1 : decode b_mstep 1 = .ok (.newarray .int, 2) := by decide +kernel
theorem d_mstep_3 : decode b_mstep 3 = .ok (.dup, 1) := by decide +kernel
theorem d_mstep_4 : decode b_mstep 4 = .ok (.iconst 0, 1) := by decide +kernel
theorem d_mstep_5 : decode b_mstep 5 = .ok (.iload_n 0, 1) := by decide +kernel
theorem d_mstep_6 : decode b_mstep 6 = .ok (.bipush 16, 2) := by decide +kernel
theorem d_mstep_8 : decode b_mstep 8 = .ok (.idiv, 1) := by decide +kernel
theorem d_mstep_9 : decode b_mstep 9 = .ok (.iastore, 1) := by decide +kernel
theorem d_mstep_10 : decode b_mstep 10 = .ok (.dup, 1) := by decide +kernel
theorem d_mstep_11 : decode b_mstep 11 = .ok (.iconst 1, 1) := by decide +kernel
theorem d_mstep_12 : decode b_mstep 12 = .ok (.iload_n 0, 1) := by decide +kernel
theorem d_mstep_13 : decode b_mstep 13 = .ok (.iconst 2, 1) := by decide +kernel
theorem d_mstep_14 : decode b_mstep 14 = .ok (.idiv, 1) := by decide +kernel
theorem d_mstep_15 : decode b_mstep 15 = .ok (.bipush 8, 2) := by decide +kernel
theorem d_mstep_17 : decode b_mstep 17 = .ok (.irem, 1) := by decide +kernel
theorem d_mstep_18 : decode b_mstep 18 = .ok (.iastore, 1) := by decide +kernel
theorem d_mstep_19 : decode b_mstep 19 = .ok (.astore_n 2, 1) := by decide +kernel
theorem d_mstep_20 : decode b_mstep 20 = .ok (.iload_n 0, 1) := by decide +kernel
theorem d_mstep_21 : decode b_mstep 21 = .ok (.iconst 2, 1) := by decide +kernel
theorem d_mstep_22 : decode b_mstep 22 = .ok (.irem, 1) := by decide +kernel
theorem d_mstep_23 : decode b_mstep 23 = .ok (.istore_n 3, 1) := by decide +kernel
theorem d_mstep_24 : decode b_mstep 24 = .ok (.iload_n 1, 1) := by decide +kernel
theorem d_mstep_25 : decode b_mstep 25 = .ok (.invokestatic 79, 3) := by decide +kernel
theorem d_mstep_28 : decode b_mstep 28 = .ok (.istore 4, 2) := by decide +kernel
theorem d_mstep_30 : decode b_mstep 30 = .ok (.iload 4, 2) := by decide +kernel
theorem d_mstep_32 : decode b_mstep 32 = .ok (.iconst (-1), 1) := by decide +kernel
theorem d_mstep_33 : decode b_mstep 33 = .ok (.if_icmp .ne 7, 3) := by decide +kernel
theorem d_mstep_36 : decode b_mstep 36 = .ok (.iconst 0, 1) := by decide +kernel
theorem d_mstep_37 : decode b_mstep 37 = .ok (.goto 7, 3) := by decide +kernel
theorem d_mstep_44 : decode b_mstep 44 = .ok (.istore 5, 2) := by decide +kernel
theorem d_mstep_46 : decode b_mstep 46 = .ok (.iload_n 1, 1) := by decide +kernel
theorem d_mstep_47 : decode b_mstep 47 = .ok (.invokestatic 82, 3) := by decide +kernel
theorem d_mstep_50 : decode b_mstep 50 = .ok (.iconst (-1), 1) := by decide +kernel
theorem d_mstep_51 : decode b_mstep 51 = .ok (.if_icmp .ne 7, 3) := by decide +kernel
theorem d_mstep_54 : decode b_mstep 54 = .ok (.iconst 0, 1) := by decide +kernel
theorem d_mstep_55 : decode b_mstep 55 = .ok (.goto 9, 3) := by decide +kernel
theorem d_mstep_64 : decode b_mstep 64 = .ok (.istore 6, 2) := by decide +kernel
theorem d_mstep_66 : decode b_mstep 66 = .ok (.iload_n 1, 1) := by decide +kernel
theorem d_mstep_67 : decode b_mstep 67 = .ok (.invokestatic 85, 3) := by decide +kernel
theorem d_mstep_70 : decode b_mstep 70 = .ok (.tableswitch 364 97 122 #[127, 350, 240, 273, 364, 364, 364, 364, 259, 364, 224, 288, 118, 188, 200, 364, 364, 314, 158, 330, 364, 364, 364, 212, 364, 342], 118) := by decide +kernel
theorem d_mstep_434 : decode b_mstep 434 = .ok (.iconst 1, 1) := by decide +kernel
theorem d_mstep_435 : decode b_mstep 435 = .ok (.iload_n 3, 1) := by decide +kernel
theorem d_mstep_436 : decode b_mstep 436 = .ok (.isub, 1) := by decide +kernel
theorem d_mstep_437 : decode b_mstep 437 = .ok (.istore_n 3, 1) := by decide +kernel
theorem d_mstep_438 : decode b_mstep 438 = .ok (.aload_n 2, 1) := by decide +kernel
theorem d_mstep_439 : decode b_mstep 439 = .ok (.iload_n 3, 1) := by decide +kernel
theorem d_mstep_440 : decode b_mstep 440 = .ok (.invokestatic 94, 3) := by decide +kernel
theorem d_mstep_443 : decode b_mstep 443 = .ok (.ireturn, 1) := by decide +kernel
set_option maxRecDepth 20000 in
theorem g_mstep_25 : GoodIn w_mstep (wsS "LeastcodeModel" 79 ⟨"LeastcodeModel", "first", "(I)I"⟩ w_first) := goodIn_r _ [2, 3, 4, 5] rfl (by decide +kernel)
set_option maxRecDepth 20000 in
theorem g_mstep_47 : GoodIn w_mstep (wsS "LeastcodeModel" 82 ⟨"LeastcodeModel", "second", "(I)I"⟩ w_second) := goodIn_r _ [6, 7, 4, 8] rfl (by decide +kernel)
set_option maxRecDepth 20000 in
theorem g_mstep_67 : GoodIn w_mstep (wsS "LeastcodeModel" 85 ⟨"LeastcodeModel", "kind", "(I)C"⟩ w_kind) := goodIn_r _ [9, 10, 4, 11] rfl (by decide +kernel)
set_option maxRecDepth 20000 in
theorem g_mstep_440 : GoodIn w_mstep (wsS "LeastcodeModel" 94 ⟨"LeastcodeModel", "state", "([II)I"⟩ w_state) := goodIn_r _ [12, 13, 4, 14] rfl (by decide +kernel)
set_option maxHeartbeats 4000000 in
set_option maxRecDepth 100000 in
theorem c_mstep (l : Launch) (dC : Nat → ClassId) (dI : Nat → Nat → Nat) (x : Int32) (sz : Nat) : Met l y_mstep w_mstep rm_mstep (va_Pc [.int x, .int 46] (fun U => U.heap.size = sz ∧ va_P (dC, dI) classes [] U.heap ∧ va_K (dC, dI) classes [] U ∧ va_D (fun _ => True) [])) (va_Qi (fun r (_ : Unit) => True) (fun _ t => va_P (dC, dI) classes [] t.heap ∧ va_K (dC, dI) classes [] t ∧ va_D (va_A [] sz) [] ∧ sz + 1 ≤ t.heap.size) (va_A [] sz)) 1 2 (va_A [] sz) := by
  refine Met.ofW (cc := b_mstep) (maxL := 7) (ret := (some .int)) (by decide) rfl ?_
  intro p e s m args below meth c s₁ B hml hv
  obtain ⟨rfl, hsz, hP, hK, hD0⟩ := hv
  have hx := B.exec
  have hb := B.bytes
  have hr := B.returns
  have hts := atoms_spec (ws := w_mstep) B.pre
  have hown : s.vm.findClass "LeastcodeModel" = some m.cls := findClass_of_methodNamed B.named
  have hlocks := B.notSynchronized
  subst hsz
  have hD := hD0.self (sz := s.heap.size)
  generalize hAe : va_A [] s.heap.size = A at hD ⊢
  have hA : ∀ q : Nat, s.heap.size ≤ q → A q := fun q h => by rw [← hAe]; exact Or.inr h
  have hS : va_S A s.heap s.heap [] := va_S.rf
  have hP : va_P (dC, dI) classes [] s.heap := hP
  have hl := lv_entry ([.int x, .int 46]) (n := 7) (Nat.le_of_ble_eq_true rfl)
  rw [lg_entry_eq]
  generalize (lg_sl ([.int x, .int 46]) ++ List.replicate (7 - (lg_sl ([.int x, .int 46])).length) Slot.unset).toArray = ls at hl ⊢
  have hl : lv_has ls 7 [(0, .int x), (1, .int 46)] := hl
  refine lv_iconst (v := 2) hx hb d_mstep_0 (by decide) ?_
  refine va_newa (D := (dC, dI)) (atype := .int) (a0 := (2, .inl (fun _ => 0))) (ty := .int) (N' := 2) hx hb (hts (.arrayClass .int) (List.mem_of_getElem? (i := 1) rfl)) rfl hK hP hD hS hA (fun cA => rfl) (by decide) (by decide) (Nat.le_of_ble_eq_true rfl) (Nat.le_of_ble_eq_true rfl) (Nat.le_of_ble_eq_true rfl) d_mstep_1 (fun q1 cA2 H hK hP hD hS => ?_)
  have hP : va_P (dC, dI) classes [(q1, .inl (cA2, 2, .inl (fun _ => 0)))] H := hP
  have hK : va_K (dC, dI) classes [(cA2, .int)] s := hK
  have hD : va_D A [(q1, .inl (cA2, 2, .inl (fun _ => 0)))] := hD
  refine W.widen (k := 1) (n := 2) (by omega) (by omega) ?_
  refine lv_dup hx hb d_mstep_3 rfl ?_
  refine lv_iconst (v := 0) hx hb d_mstep_4 (by decide) ?_
  refine lv_iload_n hx hb d_mstep_5 rfl (lv_at hl 0 rfl) ?_
  refine lv_bipush (v := 16) hx hb d_mstep_6 (by decide) ?_
  refine lv_idiv hx hb d_mstep_8 (by decide) ?_
  refine lv_topi (fun x3 ex3 => ?_)
  refine va_iast (D := (dC, dI)) hx hb hK hP hD hS 0 0 rfl rfl (by unfold vp_in; decide) d_mstep_9 (fun H locs hP hD hS => ?_)
  have hP : va_P (dC, dI) classes [(q1, .inl (cA2, 2, .inl (upd (fun _ => 0) (0 : Int32).toNatClampNeg (x3))))] H := hP
  have hD : va_D A [(q1, .inl (cA2, 2, .inl (upd (fun _ => 0) (0 : Int32).toNatClampNeg (x3))))] := hD
  generalize upd (fun _ => 0) (0 : Int32).toNatClampNeg (x3) = f4 at hP hD
  refine lv_dup hx hb d_mstep_10 rfl ?_
  refine lv_iconst (v := 1) hx hb d_mstep_11 (by decide) ?_
  refine lv_iload_n hx hb d_mstep_12 rfl (lv_at hl 0 rfl) ?_
  refine lv_iconst (v := 2) hx hb d_mstep_13 (by decide) ?_
  refine lv_idiv hx hb d_mstep_14 (by decide) ?_
  refine lv_topi (fun x5 ex5 => ?_)
  refine lv_bipush (v := 8) hx hb d_mstep_15 (by decide) ?_
  refine lv_irem hx hb d_mstep_17 (by decide) ?_
  refine lv_topi (fun x6 ex6 => ?_)
  refine va_iast (D := (dC, dI)) hx hb hK hP hD hS 0 0 rfl rfl (by unfold vp_in; decide) d_mstep_18 (fun H locs hP hD hS => ?_)
  have hP : va_P (dC, dI) classes [(q1, .inl (cA2, 2, .inl (upd f4 (1 : Int32).toNatClampNeg (x6))))] H := hP
  have hD : va_D A [(q1, .inl (cA2, 2, .inl (upd f4 (1 : Int32).toNatClampNeg (x6))))] := hD
  generalize upd f4 (1 : Int32).toNatClampNeg (x6) = f7 at hP hD
  refine lv_astore_n (lv' := [(2, .ref q1), (0, .int x), (1, .int 46)]) hx hb d_mstep_19 rfl hl (by decide) rfl (fun ls hl => ?_)
  refine lv_iload_n hx hb d_mstep_20 rfl (lv_at hl 1 rfl) ?_
  refine lv_iconst (v := 2) hx hb d_mstep_21 (by decide) ?_
  refine lv_irem hx hb d_mstep_22 (by decide) ?_
  refine lv_topi (fun x8 ex8 => ?_)
  refine lv_istore_n (lv' := [(3, .int x8), (2, .ref q1), (0, .int x), (1, .int 46)]) hx hb d_mstep_23 rfl hl (by decide) rfl (fun ls hl => ?_)
  refine lv_iload_n hx hb d_mstep_24 rfl (lv_at hl 3 rfl) ?_
  refine vp_callSi (W.runS (As := [.int 46]) (rest := []) ⟨hx, hb, hml, hown, hts⟩ (c_first l ) (cwS 1 hts g_mstep_25 rfl rfl rfl (by decide +kernel) ⟨Nat.le_of_ble_eq_true rfl, Nat.le_of_ble_eq_true rfl⟩) ⟨fun a U g mk z => z, fun U hU hW => ⟨rfl, trivial⟩⟩ rfl rfl hl.1 rfl (lv_room (Nat.le_of_ble_eq_true rfl)) d_mstep_25 ⟨(Nat.le_of_ble_eq_true rfl), (Nat.le_of_ble_eq_true rfl)⟩) (fun r9 hr9 => ?_)
  replace hr9 := hr9.symm; subst hr9
  refine lv_istore (lv' := [(4, .int (-1)), (3, .int x8), (2, .ref q1), (0, .int x), (1, .int 46)]) hx hb d_mstep_28 hl (by decide) rfl (fun ls hl => ?_)
  refine lv_iload hx hb d_mstep_30 (lv_at hl 0 rfl) ?_
  refine lv_iconst (v := (-1)) hx hb d_mstep_32 (by decide) ?_
  refine lv_icmp_ne (tgt := 40) hx hb d_mstep_33 (by decide) (fun c_33 => ?_) (fun c_33 => ?_)
  · exact absurd rfl c_33
  · skip
    refine lv_iconst (v := 0) hx hb d_mstep_36 (by decide) ?_
    refine lv_goto (tgt := 44) hx hb d_mstep_37 (by decide) ?_
    refine lv_istore (lv' := [(5, .int 0), (4, .int (-1)), (3, .int x8), (2, .ref q1), (0, .int x), (1, .int 46)]) hx hb d_mstep_44 hl (by decide) rfl (fun ls hl => ?_)
    refine lv_iload_n hx hb d_mstep_46 rfl (lv_at hl 5 rfl) ?_
    refine vp_callSi (W.runS (As := [.int 46]) (rest := []) ⟨hx, hb, hml, hown, hts⟩ (c_second l ) (cwS 1 hts g_mstep_47 rfl rfl rfl (by decide +kernel) ⟨Nat.le_of_ble_eq_true rfl, Nat.le_of_ble_eq_true rfl⟩) ⟨fun a U g mk z => z, fun U hU hW => ⟨rfl, trivial⟩⟩ rfl rfl hl.1 rfl (lv_room (Nat.le_of_ble_eq_true rfl)) d_mstep_47 ⟨(Nat.le_of_ble_eq_true rfl), (Nat.le_of_ble_eq_true rfl)⟩) (fun r10 hr10 => ?_)
    replace hr10 := hr10.symm; subst hr10
    refine lv_iconst (v := (-1)) hx hb d_mstep_50 (by decide) ?_
    refine lv_icmp_ne (tgt := 58) hx hb d_mstep_51 (by decide) (fun c_51 => ?_) (fun c_51 => ?_)
    · exact absurd rfl c_51
    · skip
      refine lv_iconst (v := 0) hx hb d_mstep_54 (by decide) ?_
      refine lv_goto (tgt := 64) hx hb d_mstep_55 (by decide) ?_
      refine lv_istore (lv' := [(6, .int 0), (5, .int 0), (4, .int (-1)), (3, .int x8), (2, .ref q1), (0, .int x), (1, .int 46)]) hx hb d_mstep_64 hl (by decide) rfl (fun ls hl => ?_)
      refine lv_iload_n hx hb d_mstep_66 rfl (lv_at hl 6 rfl) ?_
      refine vp_callSi (W.runS (As := [.int 46]) (rest := []) ⟨hx, hb, hml, hown, hts⟩ (c_kind l ) (cwS 1 hts g_mstep_67 rfl rfl rfl (by decide +kernel) ⟨Nat.le_of_ble_eq_true rfl, Nat.le_of_ble_eq_true rfl⟩) ⟨fun a U g mk z => z, fun U hU hW => ⟨rfl, trivial⟩⟩ rfl rfl hl.1 rfl (lv_room (Nat.le_of_ble_eq_true rfl)) d_mstep_67 ⟨(Nat.le_of_ble_eq_true rfl), (Nat.le_of_ble_eq_true rfl)⟩) (fun r11 hr11 => ?_)
      replace hr11 := hr11.symm; subst hr11
      refine lv_tableIn (off := 364) (tgt := 434) hx hb d_mstep_70 (by decide) (by decide) (by decide) (by decide) ?_
      refine lv_iconst (v := 1) hx hb d_mstep_434 (by decide) ?_
      refine lv_iload_n hx hb d_mstep_435 rfl (lv_at hl 3 rfl) ?_
      refine lv_isub hx hb d_mstep_436 ?_
      refine lv_topi (fun x12 ex12 => ?_)
      refine lv_istore_n (lv' := [(3, .int x12), (6, .int 0), (5, .int 0), (4, .int (-1)), (2, .ref q1), (0, .int x), (1, .int 46)]) hx hb d_mstep_437 rfl hl (by decide) rfl (fun ls hl => ?_)
      refine lv_aload_n hx hb d_mstep_438 rfl (lv_at hl 4 rfl) ?_
      refine lv_iload_n hx hb d_mstep_439 rfl (lv_at hl 0 rfl) ?_
      have hPc : va_P (dC, dI) classes [(q1, .inl (cA2, 2, .inl (f7)))] _ := hP.sub (ws' := [(q1, .inl (cA2, 2, .inl (f7)))]) [0] rfl
      have hKc : va_K (dC, dI) classes [(cA2, .int)] s := hK.sub (tys' := [(cA2, .int)]) [0] rfl
      refine vp_callSi (W.runS (As := [.ref q1, .int x12]) (rest := []) ⟨hx, hb, hml, hown, hts⟩ (c_state l dC dI q1 cA2 f7 x12) (cwS 2 hts g_mstep_440 rfl rfl rfl (by decide +kernel) ⟨Nat.le_of_ble_eq_true rfl, Nat.le_of_ble_eq_true rfl⟩) ⟨fun a U g mk z => by obtain ⟨z0, zP, zK⟩ := z; exact ⟨z0, zP, va_K.moved (u := U) (U := U.calling g mk a) (Vm.Alike.refl U.vm) zK⟩, fun U hU hW => ⟨rfl, by rw [hU]; exact hPc, va_K.moved hW.alike hKc⟩⟩ rfl rfl hl.1 rfl (lv_room (Nat.le_of_ble_eq_true rfl)) d_mstep_440 ⟨(Nat.le_of_ble_eq_true rfl), (Nat.le_of_ble_eq_true rfl)⟩) (fun r13 hr13 => ?_)
      have hP9 : va_P (dC, dI) classes [] H := hP.sub (ws' := []) [] rfl
      have hD9 := hD.sub (ws' := []) [] (by decide) rfl
      have hK9 := hK.sub (tys' := []) [] rfl
      refine W.widen (k := 1) (n := 2) (by omega) (by omega) ?_
      exact W.iret hx hb hr (fun t ht hW => ⟨⟨_, (), rfl, trivial, ⟨by rw [ht]; exact hP9, va_K.moved hW.alike hK9, hD9, (by rw [ht]; exact ry_grow hAe hP hD 0 rfl (by intro z hz; cases hz))⟩⟩, hS.F ht⟩) hS.2.2 d_mstep_443

abbrev rm_ran : Room := { frames := 3, cells := 9, slots := 20, locals := 53 }
abbrev b_ran : ByteArray := prog_11_method_17_code
def y_ran : MethodName := ⟨"LeastcodeModel", "ran", "(Ljava/util/List;I)I"⟩
def w_ran : List Cond := [.code ⟨"LeastcodeModel", "ran", "(Ljava/util/List;I)I"⟩ prog_11_method_17_code 5 (some .int), .methodLink "LeastcodeModel" 103 ⟨"java/util/List", "iterator", "()Ljava/util/Iterator;"⟩, .selects "java/util/ArrayList" ⟨"java/util/List", "iterator", "()Ljava/util/Iterator;"⟩ ⟨"java/util/ArrayList", "iterator", "()Ljava/util/Iterator;"⟩, .instanceMethod ⟨"java/util/ArrayList", "iterator", "()Ljava/util/Iterator;"⟩, .initialized "java/util/ArrayList", .code ⟨"java/util/ArrayList", "iterator", "()Ljava/util/Iterator;"⟩ prog_50_method_55_code 1 (some (.object "java/util/Iterator")), .lays "java/util/ArrayList$Itr" "java/util/ArrayList$Itr" "cursor" "I", .lays "java/util/ArrayList$Itr" "java/util/ArrayList$Itr" "lastRet" "I", .lays "java/util/ArrayList$Itr" "java/util/ArrayList$Itr" "expectedModCount" "I", .laysFinal "java/util/ArrayList$Itr" "java/util/ArrayList$Itr" "this$0" "Ljava/util/ArrayList;", .classLink "java/util/ArrayList" 267 "java/util/ArrayList$Itr", .instantiable "java/util/ArrayList$Itr" 4, .initialized "java/util/ArrayList$Itr", .code ⟨"java/util/ArrayList$Itr", "<init>", "(Ljava/util/ArrayList;)V"⟩ prog_51_method_1_code 2 none, .fieldLink "java/util/ArrayList$Itr" 1 "java/util/ArrayList$Itr" "this$0" "Ljava/util/ArrayList;", .methodLink "java/util/ArrayList$Itr" 7 ⟨"java/lang/Object", "<init>", "()V"⟩, .instanceMethod ⟨"java/lang/Object", "<init>", "()V"⟩, .code ⟨"java/lang/Object", "<init>", "()V"⟩ object_method_1_code 1 none, .fieldLink "java/util/ArrayList$Itr" 13 "java/util/ArrayList$Itr" "lastRet" "I", .sameField "java/util/ArrayList" "java/util/AbstractList" "modCount" "I", .lays "java/util/ArrayList" "java/util/AbstractList" "modCount" "I", .lays "java/util/ArrayList" "java/util/ArrayList" "elementData" "[Ljava/lang/Object;", .lays "java/util/ArrayList" "java/util/ArrayList" "size" "I", .fieldLink "java/util/ArrayList$Itr" 17 "java/util/ArrayList" "modCount" "I", .fieldLink "java/util/ArrayList$Itr" 22 "java/util/ArrayList$Itr" "expectedModCount" "I", .methodLink "java/util/ArrayList" 269 ⟨"java/util/ArrayList$Itr", "<init>", "(Ljava/util/ArrayList;)V"⟩, .instanceMethod ⟨"java/util/ArrayList$Itr", "<init>", "(Ljava/util/ArrayList;)V"⟩, .methodLink "LeastcodeModel" 107 ⟨"java/util/Iterator", "hasNext", "()Z"⟩, .selects "java/util/ArrayList$Itr" ⟨"java/util/Iterator", "hasNext", "()Z"⟩ ⟨"java/util/ArrayList$Itr", "hasNext", "()Z"⟩, .instanceMethod ⟨"java/util/ArrayList$Itr", "hasNext", "()Z"⟩, .code ⟨"java/util/ArrayList$Itr", "hasNext", "()Z"⟩ prog_51_method_2_code 1 (some .boolean), .fieldLink "java/util/ArrayList$Itr" 25 "java/util/ArrayList$Itr" "cursor" "I", .methodLink "LeastcodeModel" 113 ⟨"java/util/Iterator", "next", "()Ljava/lang/Object;"⟩, .selects "java/util/ArrayList$Itr" ⟨"java/util/Iterator", "next", "()Ljava/lang/Object;"⟩ ⟨"java/util/ArrayList$Itr", "next", "()Ljava/lang/Object;"⟩, .instanceMethod ⟨"java/util/ArrayList$Itr", "next", "()Ljava/lang/Object;"⟩, .code ⟨"java/util/ArrayList$Itr", "next", "()Ljava/lang/Object;"⟩ prog_51_method_3_code 3 (some (.object "java/lang/Object")), .methodLink "java/util/ArrayList$Itr" 31 ⟨"java/util/ArrayList$Itr", "checkForComodification", "()V"⟩, .instanceMethod ⟨"java/util/ArrayList$Itr", "checkForComodification", "()V"⟩, .selects "java/util/ArrayList$Itr" ⟨"java/util/ArrayList$Itr", "checkForComodification", "()V"⟩ ⟨"java/util/ArrayList$Itr", "checkForComodification", "()V"⟩, .code ⟨"java/util/ArrayList$Itr", "checkForComodification", "()V"⟩ prog_51_method_6_code 1 none, .fieldLink "java/util/ArrayList$Itr" 37 "java/util/ArrayList" "elementData" "[Ljava/lang/Object;", .classLink "LeastcodeModel" 117 "java/lang/Integer", .methodLink "LeastcodeModel" 119 ⟨"java/lang/Integer", "intValue", "()I"⟩, .instanceMethod ⟨"java/lang/Integer", "intValue", "()I"⟩, .selects "java/lang/Integer" ⟨"java/lang/Integer", "intValue", "()I"⟩ ⟨"java/lang/Integer", "intValue", "()I"⟩, .initialized "java/lang/Integer", .code ⟨"java/lang/Integer", "intValue", "()I"⟩ prog_27_method_27_code 1 (some .int), .fieldLink "java/lang/Integer" 205 "java/lang/Integer" "value" "I", .methodLink "LeastcodeModel" 122 ⟨"LeastcodeModel", "step", "(II)I"⟩, .static ⟨"LeastcodeModel", "step", "(II)I"⟩, .initialized "LeastcodeModel", .code ⟨"LeastcodeModel", "step", "(II)I"⟩ prog_11_method_13_code 7 (some .int), .arrayClass .int, .methodLink "LeastcodeModel" 79 ⟨"LeastcodeModel", "first", "(I)I"⟩, .static ⟨"LeastcodeModel", "first", "(I)I"⟩, .code ⟨"LeastcodeModel", "first", "(I)I"⟩ prog_11_method_9_code 1 (some .int), .methodLink "LeastcodeModel" 82 ⟨"LeastcodeModel", "second", "(I)I"⟩, .static ⟨"LeastcodeModel", "second", "(I)I"⟩, .code ⟨"LeastcodeModel", "second", "(I)I"⟩ prog_11_method_10_code 1 (some .int), .methodLink "LeastcodeModel" 85 ⟨"LeastcodeModel", "kind", "(I)C"⟩, .static ⟨"LeastcodeModel", "kind", "(I)C"⟩, .code ⟨"LeastcodeModel", "kind", "(I)C"⟩ prog_11_method_8_code 1 (some .char), .methodLink "LeastcodeModel" 94 ⟨"LeastcodeModel", "state", "([II)I"⟩, .static ⟨"LeastcodeModel", "state", "([II)I"⟩, .code ⟨"LeastcodeModel", "state", "([II)I"⟩ prog_11_method_12_code 2 (some .int)]
theorem d_ran_0 : decode b_ran 0 = .ok (.iload_n 1, 1) := by decide +kernel
theorem d_ran_1 : decode b_ran 1 = .ok (.istore_n 2, 1) := by decide +kernel
theorem d_ran_2 : decode b_ran 2 = .ok (.aload_n 0, 1) := by decide +kernel
theorem d_ran_3 : decode b_ran 3 = .ok (.invokeinterface 103 1, 5) := by decide +kernel
theorem d_ran_8 : decode b_ran 8 = .ok (.astore_n 3, 1) := by decide +kernel
theorem d_ran_9 : decode b_ran 9 = .ok (.aload_n 3, 1) := by decide +kernel
theorem d_ran_10 : decode b_ran 10 = .ok (.invokeinterface 107 1, 5) := by decide +kernel
theorem d_ran_15 : decode b_ran 15 = .ok (.ifCond .eq 27, 3) := by decide +kernel
theorem d_ran_18 : decode b_ran 18 = .ok (.aload_n 3, 1) := by decide +kernel
theorem d_ran_19 : decode b_ran 19 = .ok (.invokeinterface 113 1, 5) := by decide +kernel
theorem d_ran_24 : decode b_ran 24 = .ok (.checkcast 117, 3) := by decide +kernel
theorem d_ran_27 : decode b_ran 27 = .ok (.invokevirtual 119, 3) := by decide +kernel
theorem d_ran_30 : decode b_ran 30 = .ok (.istore 4, 2) := by decide +kernel
theorem d_ran_32 : decode b_ran 32 = .ok (.iload_n 2, 1) := by decide +kernel
theorem d_ran_33 : decode b_ran 33 = .ok (.iload 4, 2) := by decide +kernel
theorem d_ran_35 : decode b_ran 35 = .ok (.invokestatic 122, 3) := by decide +kernel
theorem d_ran_38 : decode b_ran 38 = .ok (.istore_n 2, 1) := by decide +kernel
theorem d_ran_39 : decode b_ran 39 = .ok (.goto (-30), 3) := by decide +kernel
theorem d_ran_42 : decode b_ran 42 = .ok (.iload_n 2, 1) := by decide +kernel
theorem d_ran_43 : decode b_ran 43 = .ok (.ireturn, 1) := by decide +kernel
set_option maxRecDepth 20000 in
theorem g_ran_3 : GoodIn w_ran (va_wsF "LeastcodeModel" 103 "java/util/ArrayList" ⟨"java/util/List", "iterator", "()Ljava/util/Iterator;"⟩ ⟨"java/util/ArrayList", "iterator", "()Ljava/util/Iterator;"⟩ w_AL_iterator) := goodIn_r _ [1, 2, 3, 4, 5, 6, 7, 8, 9, 10, 11, 12, 13, 14, 15, 16, 17, 18, 19, 20, 21, 22, 23, 24, 25, 26] rfl (by decide +kernel)
set_option maxRecDepth 20000 in
theorem g_ran_10 : GoodIn w_ran (va_wsF "LeastcodeModel" 107 "java/util/ArrayList$Itr" ⟨"java/util/Iterator", "hasNext", "()Z"⟩ ⟨"java/util/ArrayList$Itr", "hasNext", "()Z"⟩ w_IT_hasNext) := goodIn_r _ [27, 28, 29, 12, 30, 6, 7, 8, 9, 31, 14, 20, 21, 22] rfl (by decide +kernel)
set_option maxRecDepth 20000 in
theorem g_ran_19 : GoodIn w_ran (va_wsF "LeastcodeModel" 113 "java/util/ArrayList$Itr" ⟨"java/util/Iterator", "next", "()Ljava/lang/Object;"⟩ ⟨"java/util/ArrayList$Itr", "next", "()Ljava/lang/Object;"⟩ w_IT_next) := goodIn_r _ [32, 33, 34, 12, 35, 36, 37, 38, 12, 39, 6, 7, 8, 9, 14, 19, 20, 21, 22, 23, 24, 31, 40, 18] rfl (by decide +kernel)
set_option maxRecDepth 20000 in
theorem g_ran_27 : GoodIn w_ran (wsV "LeastcodeModel" 119 "java/lang/Integer" ⟨"java/lang/Integer", "intValue", "()I"⟩ w_IN_intValue) := goodIn_r _ [42, 43, 44, 45, 46, 47] rfl (by decide +kernel)
set_option maxRecDepth 20000 in
theorem g_ran_35 : GoodIn w_ran (wsS "LeastcodeModel" 122 ⟨"LeastcodeModel", "step", "(II)I"⟩ w_mstep) := goodIn_r _ [48, 49, 50, 51, 52, 53, 54, 50, 55, 56, 57, 58, 59, 60, 61, 62, 63, 64] rfl (by decide +kernel)
set_option maxHeartbeats 4000000 in
set_option maxRecDepth 100000 in
theorem c_ran (l : Launch) (dC : Nat → ClassId) (dI : Nat → Nat → Nat) (h0 : Nat) (md : Int32) (ed : Nat) (n : Int32) (cB : ClassId) (f0 : Nat → Option Nat) (e0 : Nat) (x1 : Int32) (hnk : n = nI 8) (hfk : ∀ j, j < 8 → f0 j = some e0) (sz : Nat) : Met l y_ran w_ran rm_ran (va_Pc [.ref h0, .int x1] (fun U => U.heap.size = sz ∧ va_P (dC, dI) classes [(h0, .inr (9, [.int md, .ref ed, .int n])), (ed, .inl (cB, 10, .inr (.inr (.inr (.inr (f0))))))] U.heap ∧ va_K (dC, dI) classes [(cB, .object "java/lang/Object")] U ∧ va_D (fun _ => True) [(h0, .inr (9, [.int md, .ref ed, .int n])), (ed, .inl (cB, 10, .inr (.inr (.inr (.inr (f0))))))] ∧ va_O "java/lang/Integer" e0 (va_A [(h0, .inr (9, [.int md, .ref ed, .int n])), (ed, .inl (cB, 10, .inr (.inr (.inr (.inr (f0))))))] sz) U U.heap ∧ va_OF "java/lang/Integer" "value" "I" (.int 46) e0 (va_A [(h0, .inr (9, [.int md, .ref ed, .int n])), (ed, .inl (cB, 10, .inr (.inr (.inr (.inr (f0))))))] sz) U U.heap ∧ va_Fw "java/util/ArrayList" ⟨"java/util/List", "iterator", "()Ljava/util/Iterator;"⟩ ⟨"java/util/ArrayList", "iterator", "()Ljava/util/Iterator;"⟩ U ∧ va_Fw "java/util/ArrayList$Itr" ⟨"java/util/Iterator", "hasNext", "()Z"⟩ ⟨"java/util/ArrayList$Itr", "hasNext", "()Z"⟩ U ∧ va_Nw (.fieldLinkNest "java/util/ArrayList$Itr" 28 "java/util/ArrayList" "size" "I" "java/util/ArrayList") U ∧ va_Fw "java/util/ArrayList$Itr" ⟨"java/util/Iterator", "next", "()Ljava/lang/Object;"⟩ ⟨"java/util/ArrayList$Itr", "next", "()Ljava/lang/Object;"⟩ U ∧ va_Nw (.castable "java/lang/Integer" "java/lang/Integer") U)) (va_Qi (fun r (_ : Unit) => True) (fun _ t => va_P (dC, dI) classes [(h0, .inr (9, [.int md, .ref ed, .int n])), (ed, .inl (cB, 10, .inr (.inr (.inr (.inr (f0))))))] t.heap ∧ va_K (dC, dI) classes [(cB, .object "java/lang/Object")] t ∧ va_D (va_A [(h0, .inr (9, [.int md, .ref ed, .int n])), (ed, .inl (cB, 10, .inr (.inr (.inr (.inr (f0))))))] sz) [(h0, .inr (9, [.int md, .ref ed, .int n])), (ed, .inl (cB, 10, .inr (.inr (.inr (.inr (f0))))))] ∧ sz + 9 ≤ t.heap.size) (va_A [(h0, .inr (9, [.int md, .ref ed, .int n])), (ed, .inl (cB, 10, .inr (.inr (.inr (.inr (f0))))))] sz)) 9 20 (va_A [(h0, .inr (9, [.int md, .ref ed, .int n])), (ed, .inl (cB, 10, .inr (.inr (.inr (.inr (f0))))))] sz) := by
  refine Met.ofW (cc := b_ran) (maxL := 5) (ret := (some .int)) (by decide) rfl ?_
  intro p e s m args below meth c s₁ B hml hv
  obtain ⟨rfl, hsz, hP, hK, hD0, hE0, hE1, hE2, hE3, hE4, hE5, hE6⟩ := hv
  have hx := B.exec
  have hb := B.bytes
  have hr := B.returns
  have hts := atoms_spec (ws := w_ran) B.pre
  have hown : s.vm.findClass "LeastcodeModel" = some m.cls := findClass_of_methodNamed B.named
  have hlocks := B.notSynchronized
  subst hsz
  have hD := hD0.self (sz := s.heap.size)
  generalize hAe : va_A [(h0, .inr (9, [.int md, .ref ed, .int n])), (ed, .inl (cB, 10, .inr (.inr (.inr (.inr (f0))))))] s.heap.size = A at hD hE0 hE1 hE2 hE3 hE4 hE5 hE6 ⊢
  have hA : ∀ q : Nat, s.heap.size ≤ q → A q := fun q h => by rw [← hAe]; exact Or.inr h
  have hS : va_S A s.heap s.heap [] := va_S.rf
  have hP : va_P (dC, dI) classes [(h0, .inr (9, [.int md, .ref ed, .int n])), (ed, .inl (cB, 10, .inr (.inr (.inr (.inr (f0))))))] s.heap := hP
  have hl := lv_entry ([.ref h0, .int x1]) (n := 5) (Nat.le_of_ble_eq_true rfl)
  rw [lg_entry_eq]
  generalize (lg_sl ([.ref h0, .int x1]) ++ List.replicate (5 - (lg_sl ([.ref h0, .int x1])).length) Slot.unset).toArray = ls at hl ⊢
  have hl : lv_has ls 5 [(0, .ref h0), (1, .int x1)] := hl
  refine lv_iload_n hx hb d_ran_0 rfl (lv_at hl 1 rfl) ?_
  refine lv_istore_n (lv' := [(2, .int x1), (0, .ref h0), (1, .int x1)]) hx hb d_ran_1 rfl hl (by decide) rfl (fun ls hl => ?_)
  refine lv_aload_n hx hb d_ran_2 rfl (lv_at hl 1 rfl) ?_
  have hPc : va_P (dC, dI) classes [(h0, .inr (9, [.int md, .ref ed, .int n]))] _ := hP.sub (ws' := [(h0, .inr (9, [.int md, .ref ed, .int n]))]) [0] rfl
  have hKc : va_K (dC, dI) classes [] s := hK.sub (tys' := []) [] rfl
  have hDc : va_D _ [(h0, .inr (9, [.int md, .ref ed, .int n]))] := hD.sub (ws' := [(h0, .inr (9, [.int md, .ref ed, .int n]))]) [0] (by decide) rfl
  have hFc := va_free (wc := [(h0, .inr (9, [.int md, .ref ed, .int n]))]) hD hS hA [0] rfl
  refine va_callFr (va_runF (As := []) (rest := []) (hKc.1 9 _ rfl).2 ⟨hx, hb, hml, hown, hts⟩ (c_AL_iterator l dC dI h0 md ed n s.heap.size) (va_cwF 0 hts g_ran_3 rfl rfl rfl hE2 (by decide +kernel) ⟨Nat.le_of_ble_eq_true rfl, Nat.le_of_ble_eq_true rfl⟩) ⟨fun a U g mk z => by obtain ⟨z0, z1, zP, zK, zD⟩ := z; exact ⟨z0, z1, zP, va_K.moved (u := U) (U := U.calling g mk a) (Vm.Alike.refl U.vm) zK, zD⟩, va_recv hKc hPc (ci := 9) (q0 := 0) rfl rfl, fun U hU hW => ⟨rfl, by rw [hU], by rw [hU]; exact hPc, va_K.moved hW.alike hKc, hDc.weaken (fun _ _ _ _ => trivial)⟩⟩ rfl rfl hl.1 rfl (lv_room (Nat.le_of_ble_eq_true rfl)) d_ran_3 ⟨(Nat.le_of_ble_eq_true rfl), (Nat.le_of_ble_eq_true rfl)⟩) hS (fun q _ h => hFc q h) hFc (fun u r1 t H1 locs ht hvm hr1 hB hz1 hk1 hS => ?_)
  obtain ⟨hP1, hK1, hD1, hpr1_0⟩ := hB
  rw [ht] at hP1
  have hK1 := va_K.moved hvm.symm hK1
  rw [ht] at hpr1_0
  obtain ⟨hP, hD⟩ := va_join (wr := [(ed, .inl (cB, 10, .inr (.inr (.inr (.inr (f0))))))]) (w1 := [(r1, .inr (10, [.int 0, .int (-1), .int md, .ref h0])), (h0, .inr (9, [.int md, .ref ed, .int n]))]) hP hD [0] [1] rfl rfl (by decide) (by decide) hk1 hFc hP1 hD1
  clear hPc hDc hKc hFc hP1 hD1 hK1 hk1
  have hg : s.heap.size + 1 ≤ H1.size := hpr1_0
  generalize H1 = H at hP hS hg ⊢
  have hP : va_P (dC, dI) classes [(ed, .inl (cB, 10, .inr (.inr (.inr (.inr (f0)))))), (r1, .inr (10, [.int 0, .int (-1), .int md, .ref h0])), (h0, .inr (9, [.int md, .ref ed, .int n]))] H := hP
  have hD : va_D A [(ed, .inl (cB, 10, .inr (.inr (.inr (.inr (f0)))))), (r1, .inr (10, [.int 0, .int (-1), .int md, .ref h0])), (h0, .inr (9, [.int md, .ref ed, .int n]))] := hD
  refine W.widen (k := 1) (n := 4) (by omega) (by omega) ?_
  refine lv_astore_n (lv' := [(3, .ref r1), (2, .int x1), (0, .ref h0), (1, .int x1)]) hx hb d_ran_8 rfl hl (by decide) rfl (fun ls hl => ?_)
  refine ry_abs (fun QQ hQ => ?_)
  have loop : ∀ (k i : Nat), i + k = 8 → ∀ (H : Heap) (locs : List Loc) (st : Int32) (lr : Int32) (ls : Array Slot) (x : Int32), x = nI i → (s.heap.size + 1 + i ≤ H.size) → va_P (dC, dI) classes [(ed, .inl (cB, 10, .inr (.inr (.inr (.inr (f0)))))), (r1, .inr (10, [.int x, .int lr, .int md, .ref h0])), (h0, .inr (9, [.int md, .ref ed, .int n]))] H → va_D A [(ed, .inl (cB, 10, .inr (.inr (.inr (.inr (f0)))))), (r1, .inr (10, [.int x, .int lr, .int md, .ref h0])), (h0, .inr (9, [.int md, .ref ed, .int n]))] → va_S A s.heap H locs → lv_has ls 5 [(3, .ref r1), (2, .int st), (0, .ref h0)] → W p l e (headSpec w_ran rm_ran).room s m ([.ref h0, .int x1] : List Value).toArray below meth c H locs (1 + i) (4 + 2 * i) QQ (F0 m 9 ls []) := by
    intro k
    induction k with
    | zero =>
      intro i hi H locs st lr ls x ex0 hg hP hD hS hl
      obtain rfl : i = 8 := by omega
      refine W.widen (k := 9) (n := 20) (by omega) (by omega) ?_
      refine lv_aload_n hx hb d_ran_9 rfl (lv_at hl 0 rfl) ?_
      have hPc : va_P (dC, dI) classes [(r1, .inr (10, [.int x, .int lr, .int md, .ref h0])), (h0, .inr (9, [.int md, .ref ed, .int n]))] _ := hP.sub (ws' := [(r1, .inr (10, [.int x, .int lr, .int md, .ref h0])), (h0, .inr (9, [.int md, .ref ed, .int n]))]) [1, 2] rfl
      have hKc : va_K (dC, dI) classes [] s := hK.sub (tys' := []) [] rfl
      refine va_csFi (va_runF (As := []) (rest := []) (hKc.1 10 _ rfl).2 ⟨hx, hb, hml, hown, hts⟩ (c_IT_hasNext l dC dI r1 x lr md h0 ed n) (va_cwF 0 hts g_ran_10 rfl rfl rfl hE3 (by decide +kernel) ⟨Nat.le_of_ble_eq_true rfl, Nat.le_of_ble_eq_true rfl⟩) ⟨fun a U g mk z => by obtain ⟨z0, zP, zK, zE0⟩ := z; exact ⟨z0, zP, va_K.moved (u := U) (U := U.calling g mk a) (Vm.Alike.refl U.vm) zK, va_Nw.same rfl (u := U) (U := U.calling g mk a) rfl zE0⟩, va_recv hKc hPc (ci := 10) (q0 := 0) rfl rfl, fun U hU hW => ⟨rfl, by rw [hU]; exact hPc, va_K.moved hW.alike hKc, va_Nw.warmF hW hE4⟩⟩ rfl rfl hl.1 rfl (lv_room (Nat.le_of_ble_eq_true rfl)) d_ran_10 ⟨(Nat.le_of_ble_eq_true rfl), (Nat.le_of_ble_eq_true rfl)⟩) (fun r2 hr2 => ?_)
      refine lv_if_eq (tgt := 42) hx hb d_ran_15 (by decide) (fun c_15 => ?_) (fun c_15 => ?_)
      · skip
        refine lv_iload_n hx hb d_ran_42 rfl (lv_at hl 1 rfl) ?_
        subst hQ
        have hP9 : va_P (dC, dI) classes [(h0, .inr (9, [.int md, .ref ed, .int n])), (ed, .inl (cB, 10, .inr (.inr (.inr (.inr (f0))))))] H := hP.sub (ws' := [(h0, .inr (9, [.int md, .ref ed, .int n])), (ed, .inl (cB, 10, .inr (.inr (.inr (.inr (f0))))))]) [2, 0] rfl
        have hD9 := hD.sub (ws' := [(h0, .inr (9, [.int md, .ref ed, .int n])), (ed, .inl (cB, 10, .inr (.inr (.inr (.inr (f0))))))]) [2, 0] (by decide) rfl
        have hK9 := hK.sub (tys' := [(cB, .object "java/lang/Object")]) [0] rfl
        refine W.widen (k := 9) (n := 20) (by omega) (by omega) ?_
        exact W.iret hx hb hr (fun t ht hW => ⟨⟨_, (), rfl, trivial, ⟨by rw [ht]; exact hP9, va_K.moved hW.alike hK9, hD9, (by rw [ht]; omega)⟩⟩, hS.F ht⟩) hS.2.2 d_ran_43
      · exact absurd (by rw [hr2.1 (by rw [ex0, hnk])]) c_15
    | succ k ih =>
      intro i hi H locs st lr ls x ex0 hg hP hD hS hl
      have hlt : i < 8 := by omega
      refine lv_aload_n hx hb d_ran_9 rfl (lv_at hl 0 rfl) ?_
      have hPc : va_P (dC, dI) classes [(r1, .inr (10, [.int x, .int lr, .int md, .ref h0])), (h0, .inr (9, [.int md, .ref ed, .int n]))] _ := hP.sub (ws' := [(r1, .inr (10, [.int x, .int lr, .int md, .ref h0])), (h0, .inr (9, [.int md, .ref ed, .int n]))]) [1, 2] rfl
      have hKc : va_K (dC, dI) classes [] s := hK.sub (tys' := []) [] rfl
      refine va_csFi (va_runF (As := []) (rest := []) (hKc.1 10 _ rfl).2 ⟨hx, hb, hml, hown, hts⟩ (c_IT_hasNext l dC dI r1 x lr md h0 ed n) (va_cwF 0 hts g_ran_10 rfl rfl rfl hE3 (by decide +kernel) ⟨Nat.le_of_ble_eq_true rfl, Nat.le_of_ble_eq_true rfl⟩) ⟨fun a U g mk z => by obtain ⟨z0, zP, zK, zE0⟩ := z; exact ⟨z0, zP, va_K.moved (u := U) (U := U.calling g mk a) (Vm.Alike.refl U.vm) zK, va_Nw.same rfl (u := U) (U := U.calling g mk a) rfl zE0⟩, va_recv hKc hPc (ci := 10) (q0 := 0) rfl rfl, fun U hU hW => ⟨rfl, by rw [hU]; exact hPc, va_K.moved hW.alike hKc, va_Nw.warmF hW hE4⟩⟩ rfl rfl hl.1 rfl (lv_room (Nat.le_of_ble_eq_true rfl)) d_ran_10 ⟨(show 1 + i + 0 ≤ 9 by omega), (show 4 + 2 * i + 0 ≤ 20 by omega)⟩) (fun r3 hr3 => ?_)
      refine lv_if_eq (tgt := 42) hx hb d_ran_15 (by decide) (fun c_15 => ?_) (fun c_15 => ?_)
      · exact absurd c_15 (by rw [hr3.2 (by rw [ex0, hnk]; exact fun z => absurd ((nI_eq (a := i) (b := 8) (by omega) (by omega)).mp z) (by omega))]; decide)
      · skip
        refine lv_aload_n hx hb d_ran_18 rfl (lv_at hl 0 rfl) ?_
        have hPc : va_P (dC, dI) classes [(r1, .inr (10, [.int x, .int lr, .int md, .ref h0])), (h0, .inr (9, [.int md, .ref ed, .int n])), (ed, .inl (cB, 10, .inr (.inr (.inr (.inr (f0))))))] _ := hP.sub (ws' := [(r1, .inr (10, [.int x, .int lr, .int md, .ref h0])), (h0, .inr (9, [.int md, .ref ed, .int n])), (ed, .inl (cB, 10, .inr (.inr (.inr (.inr (f0))))))]) [1, 2, 0] rfl
        have hKc : va_K (dC, dI) classes [(cB, .object "java/lang/Object")] s := hK.sub (tys' := [(cB, .object "java/lang/Object")]) [0] rfl
        have hDc : va_D _ [(r1, .inr (10, [.int x, .int lr, .int md, .ref h0])), (h0, .inr (9, [.int md, .ref ed, .int n])), (ed, .inl (cB, 10, .inr (.inr (.inr (.inr (f0))))))] := hD.sub (ws' := [(r1, .inr (10, [.int x, .int lr, .int md, .ref h0])), (h0, .inr (9, [.int md, .ref ed, .int n])), (ed, .inl (cB, 10, .inr (.inr (.inr (.inr (f0))))))]) [1, 2, 0] (by decide) rfl
        have hFc := va_free (wc := [(r1, .inr (10, [.int x, .int lr, .int md, .ref h0])), (h0, .inr (9, [.int md, .ref ed, .int n])), (ed, .inl (cB, 10, .inr (.inr (.inr (.inr (f0))))))]) hD hS hA [1, 2, 0] rfl
        refine va_callFr (va_runF (As := []) (rest := []) (hKc.1 10 _ rfl).2 ⟨hx, hb, hml, hown, hts⟩ (c_IT_next l dC dI r1 x lr md h0 ed n cB f0 e0 i 8 ex0 hnk hlt (by omega) (hfk i hlt) H.size) (va_cwF 0 hts g_ran_19 rfl rfl rfl hE5 (by decide +kernel) ⟨Nat.le_of_ble_eq_true rfl, Nat.le_of_ble_eq_true rfl⟩) ⟨fun a U g mk z => by obtain ⟨z0, z1, zP, zK, zD, zE0⟩ := z; exact ⟨z0, z1, zP, va_K.moved (u := U) (U := U.calling g mk a) (Vm.Alike.refl U.vm) zK, zD, va_Nw.same rfl (u := U) (U := U.calling g mk a) rfl zE0⟩, va_recv hKc hPc (ci := 10) (q0 := 0) rfl rfl, fun U hU hW => ⟨rfl, by rw [hU], by rw [hU]; exact hPc, va_K.moved hW.alike hKc, hDc.weaken (fun _ _ _ _ => trivial), va_Nw.warmF hW hE4⟩⟩ rfl rfl hl.1 rfl (lv_room (Nat.le_of_ble_eq_true rfl)) d_ran_19 ⟨(show 1 + i + 0 ≤ 9 by omega), (show 4 + 2 * i + 0 ≤ 20 by omega)⟩) hS (fun q _ h => hFc q h) hFc (fun u r4 t H1 locs ht hvm hr4 hB hz1 hk1 hS => ?_)
        obtain ⟨c5, hP1, hK1, hD1, hpr4_0, hpr4_1⟩ := hB
        rw [ht] at hP1
        have hK1 := va_K.moved hvm.symm hK1
        obtain ⟨hP, hD⟩ := va_join (wr := []) (w1 := [(r1, .inr (10, [.int c5, .int x, .int md, .ref h0])), (h0, .inr (9, [.int md, .ref ed, .int n])), (ed, .inl (cB, 10, .inr (.inr (.inr (.inr (f0))))))]) hP hD [1, 2, 0] [] rfl rfl (by decide) (by decide) hk1 hFc hP1 hD1
        clear hPc hDc hKc hFc hP1 hD1 hK1 hk1
        have hg2 : s.heap.size + 1 + i ≤ H1.size := Nat.le_trans hg hz1
        generalize H1 = H at hP hS hg2 ⊢
        have hP : va_P (dC, dI) classes [(r1, .inr (10, [.int c5, .int x, .int md, .ref h0])), (h0, .inr (9, [.int md, .ref ed, .int n])), (ed, .inl (cB, 10, .inr (.inr (.inr (.inr (f0))))))] H := hP
        have hD : va_D A [(r1, .inr (10, [.int c5, .int x, .int md, .ref h0])), (h0, .inr (9, [.int md, .ref ed, .int n])), (ed, .inl (cB, 10, .inr (.inr (.inr (.inr (f0))))))] := hD
        refine W.widen (k := 1 + i + 0) (n := 4 + 2 * i + 0) (by omega) (by omega) ?_
        obtain rfl : e0 = r4 := Eq.symm (hpr4_0)
        refine va_castY (C := "java/lang/Integer") hx hb hown (hts (.classLink "LeastcodeModel" 117 "java/lang/Integer") (List.mem_of_getElem? (i := 41) rfl)) hE6 (va_Orecv hE0 hS) d_ran_24 ?_
        refine vp_callSi (W.runV (As := []) (rest := []) ⟨hx, hb, hml, hown, hts⟩ (c_IN_intValue l e0) (cwV 0 hts g_ran_27 rfl rfl rfl (by decide +kernel) ⟨Nat.le_of_ble_eq_true rfl, Nat.le_of_ble_eq_true rfl⟩) ⟨fun a U g mk z => by obtain ⟨z0, zE0⟩ := z; exact ⟨z0, zE0.moved (u := U) (U := U.calling g mk a) (Vm.Alike.refl U.vm)⟩, va_Orecv hE0 hS, fun U hU hW => ⟨rfl, by (try dsimp only); rw [hU]; exact ((hE1.kept (fun a h1 h2 => hS.2.1 a h1 h2)).narrow (B := fun _ => False) (fun _ h => h.elim)).moved hW.alike⟩⟩ rfl rfl hl.1 rfl (lv_room (Nat.le_of_ble_eq_true rfl)) d_ran_27 ⟨(show 1 + i + 0 + 0 ≤ 9 by omega), (show 4 + 2 * i + 0 + 0 ≤ 20 by omega)⟩) (fun r6 hr6 => ?_)
        replace hr6 := hr6.symm; subst hr6
        refine lv_istore (lv' := [(4, .int 46), (3, .ref r1), (2, .int st), (0, .ref h0)]) hx hb d_ran_30 hl (by decide) rfl (fun ls hl => ?_)
        refine lv_iload_n hx hb d_ran_32 rfl (lv_at hl 2 rfl) ?_
        refine lv_iload hx hb d_ran_33 (lv_at hl 0 rfl) ?_
        have hPc : va_P (dC, dI) classes [] _ := hP.sub (ws' := []) [] rfl
        have hKc : va_K (dC, dI) classes [] s := hK.sub (tys' := []) [] rfl
        have hDc : va_D _ [] := hD.sub (ws' := []) [] (by decide) rfl
        have hFc := va_free (wc := []) hD hS hA [] rfl
        refine va_calli (va_runS (As := [.int st, .int 46]) (rest := []) ⟨hx, hb, hml, hown, hts⟩ (c_mstep l dC dI st H.size) (cwS 2 hts g_ran_35 rfl rfl rfl (by decide +kernel) ⟨Nat.le_of_ble_eq_true rfl, Nat.le_of_ble_eq_true rfl⟩) ⟨fun a U g mk z => by obtain ⟨z0, z1, zP, zK, zD⟩ := z; exact ⟨z0, z1, zP, va_K.moved (u := U) (U := U.calling g mk a) (Vm.Alike.refl U.vm) zK, zD⟩, fun U hU hW => ⟨rfl, by rw [hU], by rw [hU]; exact hPc, va_K.moved hW.alike hKc, hDc.weaken (fun _ _ _ _ => trivial)⟩⟩ rfl rfl hl.1 rfl (lv_room (Nat.le_of_ble_eq_true rfl)) d_ran_35 ⟨(show 1 + i + 0 + 1 ≤ 9 by omega), (show 4 + 2 * i + 0 + 2 ≤ 20 by omega)⟩) hS (fun q _ h => hFc q h) hFc (fun r7 u t H1 locs ht hvm hr7 hB hz1 hk1 hS => ?_)
        obtain ⟨hP1, hK1, hD1, hpr7_0⟩ := hB
        rw [ht] at hP1
        have hK1 := va_K.moved hvm.symm hK1
        rw [ht] at hpr7_0
        obtain ⟨hP, hD⟩ := va_join (wr := [(r1, .inr (10, [.int c5, .int x, .int md, .ref h0])), (h0, .inr (9, [.int md, .ref ed, .int n])), (ed, .inl (cB, 10, .inr (.inr (.inr (.inr (f0))))))]) (w1 := []) hP hD [] [0, 1, 2] rfl rfl (by decide) (by decide) hk1 hFc hP1 hD1
        clear hPc hDc hKc hFc hP1 hD1 hK1 hk1
        have hg3 : s.heap.size + 1 + (i + 1) ≤ H1.size := by have := hpr7_0; omega
        generalize H1 = H at hP hS hg3 ⊢
        have hP : va_P (dC, dI) classes [(r1, .inr (10, [.int c5, .int x, .int md, .ref h0])), (h0, .inr (9, [.int md, .ref ed, .int n])), (ed, .inl (cB, 10, .inr (.inr (.inr (.inr (f0))))))] H := hP
        have hD : va_D A [(r1, .inr (10, [.int c5, .int x, .int md, .ref h0])), (h0, .inr (9, [.int md, .ref ed, .int n])), (ed, .inl (cB, 10, .inr (.inr (.inr (.inr (f0))))))] := hD
        refine W.widen (k := 1 + i + 0 + 1) (n := 4 + 2 * i + 0 + 2) (by omega) (by omega) ?_
        refine lv_istore_n (lv' := [(2, .int r7), (4, .int 46), (3, .ref r1), (0, .ref h0)]) hx hb d_ran_38 rfl hl (by decide) rfl (fun ls hl => ?_)
        refine lv_goto (tgt := 9) hx hb d_ran_39 (by decide) ?_
        refine W.widen (k := 1 + (i + 1)) (n := 4 + 2 * (i + 1)) (by omega) (by omega) ?_
        exact ih (i + 1) (by omega) _ _ r7 x _ c5 hpr4_1 hg3 (hP.sub [2, 0, 1] rfl) (hD.sub [2, 0, 1] (by decide) rfl) hS (lv_sub hl [2, 0, 3] rfl)
  refine W.widen (k := 1 + 0) (n := 4 + 2 * 0) (by omega) (by omega) ?_
  exact loop 8 0 rfl _ _ x1 (-1) _ _ nI_0.symm (by omega) hP hD hS (lv_sub hl [0, 1, 2] rfl)

abbrev rm_masked : Room := { frames := 0, cells := 0, slots := 0, locals := 0 }
abbrev b_masked : ByteArray := prog_11_method_18_code
def y_masked : MethodName := ⟨"LeastcodeModel", "masked", "(II)I"⟩
def w_masked : List Cond := [.code ⟨"LeastcodeModel", "masked", "(II)I"⟩ prog_11_method_18_code 2 (some .int)]
theorem d_masked_0 : decode b_masked 0 = .ok (.iload_n 1, 1) := by decide +kernel
theorem d_masked_1 : decode b_masked 1 = .ok (.iconst 1, 1) := by decide +kernel
theorem d_masked_2 : decode b_masked 2 = .ok (.iand, 1) := by decide +kernel
theorem d_masked_3 : decode b_masked 3 = .ok (.iconst 1, 1) := by decide +kernel
theorem d_masked_4 : decode b_masked 4 = .ok (.if_icmp .ne 13, 3) := by decide +kernel
theorem d_masked_17 : decode b_masked 17 = .ok (.iconst 0, 1) := by decide +kernel
theorem d_masked_18 : decode b_masked 18 = .ok (.iload_n 1, 1) := by decide +kernel
theorem d_masked_19 : decode b_masked 19 = .ok (.iconst 2, 1) := by decide +kernel
theorem d_masked_20 : decode b_masked 20 = .ok (.iand, 1) := by decide +kernel
theorem d_masked_21 : decode b_masked 21 = .ok (.iconst 2, 1) := by decide +kernel
theorem d_masked_22 : decode b_masked 22 = .ok (.if_icmp .ne 14, 3) := by decide +kernel
theorem d_masked_36 : decode b_masked 36 = .ok (.iconst 0, 1) := by decide +kernel
theorem d_masked_37 : decode b_masked 37 = .ok (.iadd, 1) := by decide +kernel
theorem d_masked_38 : decode b_masked 38 = .ok (.iload_n 1, 1) := by decide +kernel
theorem d_masked_39 : decode b_masked 39 = .ok (.iconst 4, 1) := by decide +kernel
theorem d_masked_40 : decode b_masked 40 = .ok (.iand, 1) := by decide +kernel
theorem d_masked_41 : decode b_masked 41 = .ok (.iconst 4, 1) := by decide +kernel
theorem d_masked_42 : decode b_masked 42 = .ok (.if_icmp .ne 9, 3) := by decide +kernel
theorem d_masked_51 : decode b_masked 51 = .ok (.iconst 0, 1) := by decide +kernel
theorem d_masked_52 : decode b_masked 52 = .ok (.iadd, 1) := by decide +kernel
theorem d_masked_53 : decode b_masked 53 = .ok (.ireturn, 1) := by decide +kernel
set_option maxHeartbeats 4000000 in
set_option maxRecDepth 100000 in
theorem c_masked (l : Launch) (x : Int32) : Met l y_masked w_masked rm_masked (va_Pc [.int x, .int 0] (fun U => True)) (vp_Si (fun r => r = 0)) 0 0 (fun _ => False) := by
  refine Met.ofW (cc := b_masked) (maxL := 2) (ret := (some .int)) (by decide) rfl ?_
  intro p e s m args below meth c s₁ B hml hv
  obtain ⟨rfl, -⟩ := hv
  have hx := B.exec
  have hb := B.bytes
  have hr := B.returns
  have hts := atoms_spec (ws := w_masked) B.pre
  have hown : s.vm.findClass "LeastcodeModel" = some m.cls := findClass_of_methodNamed B.named
  have hlocks := B.notSynchronized
  have hl := lv_entry ([.int x, .int 0]) (n := 2) (Nat.le_of_ble_eq_true rfl)
  rw [lg_entry_eq]
  generalize (lg_sl ([.int x, .int 0]) ++ List.replicate (2 - (lg_sl ([.int x, .int 0])).length) Slot.unset).toArray = ls at hl ⊢
  have hl : lv_has ls 2 [(0, .int x), (1, .int 0)] := hl
  refine lv_iload_n hx hb d_masked_0 rfl (lv_at hl 1 rfl) ?_
  refine lv_iconst (v := 1) hx hb d_masked_1 (by decide) ?_
  refine lv_iand hx hb d_masked_2 ?_
  refine lv_topi (fun x1 ex1 => ?_)
  refine lv_iconst (v := 1) hx hb d_masked_3 (by decide) ?_
  refine lv_icmp_ne (tgt := 17) hx hb d_masked_4 (by decide) (fun c_4 => ?_) (fun c_4 => ?_)
  · skip
    refine lv_iconst (v := 0) hx hb d_masked_17 (by decide) ?_
    refine lv_iload_n hx hb d_masked_18 rfl (lv_at hl 1 rfl) ?_
    refine lv_iconst (v := 2) hx hb d_masked_19 (by decide) ?_
    refine lv_iand hx hb d_masked_20 ?_
    refine lv_topi (fun x2 ex2 => ?_)
    refine lv_iconst (v := 2) hx hb d_masked_21 (by decide) ?_
    refine lv_icmp_ne (tgt := 36) hx hb d_masked_22 (by decide) (fun c_22 => ?_) (fun c_22 => ?_)
    · skip
      refine lv_iconst (v := 0) hx hb d_masked_36 (by decide) ?_
      refine lv_iadd hx hb d_masked_37 ?_
      refine lv_topi (fun x3 ex3 => ?_)
      refine lv_iload_n hx hb d_masked_38 rfl (lv_at hl 1 rfl) ?_
      refine lv_iconst (v := 4) hx hb d_masked_39 (by decide) ?_
      refine lv_iand hx hb d_masked_40 ?_
      refine lv_topi (fun x4 ex4 => ?_)
      refine lv_iconst (v := 4) hx hb d_masked_41 (by decide) ?_
      refine lv_icmp_ne (tgt := 51) hx hb d_masked_42 (by decide) (fun c_42 => ?_) (fun c_42 => ?_)
      · skip
        refine lv_iconst (v := 0) hx hb d_masked_51 (by decide) ?_
        refine lv_iadd hx hb d_masked_52 ?_
        refine lv_topi (fun x5 ex5 => ?_)
        exact W.iret hx hb hr (fun t ht hW => ⟨_, rfl, (by rw [ex5, ex3]; decide), ht⟩) (fun _ h => by cases h) d_masked_53
      · exact absurd c_42 (by rw [ex4]; decide)
    · exact absurd c_22 (by rw [ex2]; decide)
  · exact absurd c_4 (by rw [ex1]; decide)

abbrev rm_areSame : Room := { frames := 4, cells := 2304, slots := 5120, locals := 77 }
abbrev b_areSame : ByteArray := prog_11_method_19_code
def y_areSame : MethodName := ⟨"LeastcodeModel", "areSame", "(Ljava/util/List;Ljava/util/List;I)Z"⟩
def w_areSame : List Cond := [.code ⟨"LeastcodeModel", "areSame", "(Ljava/util/List;Ljava/util/List;I)Z"⟩ prog_11_method_19_code 4 (some .boolean), .methodLink "LeastcodeModel" 125 ⟨"LeastcodeModel", "ran", "(Ljava/util/List;I)I"⟩, .static ⟨"LeastcodeModel", "ran", "(Ljava/util/List;I)I"⟩, .initialized "LeastcodeModel", .code ⟨"LeastcodeModel", "ran", "(Ljava/util/List;I)I"⟩ prog_11_method_17_code 5 (some .int), .methodLink "LeastcodeModel" 103 ⟨"java/util/List", "iterator", "()Ljava/util/Iterator;"⟩, .selects "java/util/ArrayList" ⟨"java/util/List", "iterator", "()Ljava/util/Iterator;"⟩ ⟨"java/util/ArrayList", "iterator", "()Ljava/util/Iterator;"⟩, .instanceMethod ⟨"java/util/ArrayList", "iterator", "()Ljava/util/Iterator;"⟩, .initialized "java/util/ArrayList", .code ⟨"java/util/ArrayList", "iterator", "()Ljava/util/Iterator;"⟩ prog_50_method_55_code 1 (some (.object "java/util/Iterator")), .lays "java/util/ArrayList$Itr" "java/util/ArrayList$Itr" "cursor" "I", .lays "java/util/ArrayList$Itr" "java/util/ArrayList$Itr" "lastRet" "I", .lays "java/util/ArrayList$Itr" "java/util/ArrayList$Itr" "expectedModCount" "I", .laysFinal "java/util/ArrayList$Itr" "java/util/ArrayList$Itr" "this$0" "Ljava/util/ArrayList;", .classLink "java/util/ArrayList" 267 "java/util/ArrayList$Itr", .instantiable "java/util/ArrayList$Itr" 4, .initialized "java/util/ArrayList$Itr", .code ⟨"java/util/ArrayList$Itr", "<init>", "(Ljava/util/ArrayList;)V"⟩ prog_51_method_1_code 2 none, .fieldLink "java/util/ArrayList$Itr" 1 "java/util/ArrayList$Itr" "this$0" "Ljava/util/ArrayList;", .methodLink "java/util/ArrayList$Itr" 7 ⟨"java/lang/Object", "<init>", "()V"⟩, .instanceMethod ⟨"java/lang/Object", "<init>", "()V"⟩, .code ⟨"java/lang/Object", "<init>", "()V"⟩ object_method_1_code 1 none, .fieldLink "java/util/ArrayList$Itr" 13 "java/util/ArrayList$Itr" "lastRet" "I", .sameField "java/util/ArrayList" "java/util/AbstractList" "modCount" "I", .lays "java/util/ArrayList" "java/util/AbstractList" "modCount" "I", .lays "java/util/ArrayList" "java/util/ArrayList" "elementData" "[Ljava/lang/Object;", .lays "java/util/ArrayList" "java/util/ArrayList" "size" "I", .fieldLink "java/util/ArrayList$Itr" 17 "java/util/ArrayList" "modCount" "I", .fieldLink "java/util/ArrayList$Itr" 22 "java/util/ArrayList$Itr" "expectedModCount" "I", .methodLink "java/util/ArrayList" 269 ⟨"java/util/ArrayList$Itr", "<init>", "(Ljava/util/ArrayList;)V"⟩, .instanceMethod ⟨"java/util/ArrayList$Itr", "<init>", "(Ljava/util/ArrayList;)V"⟩, .methodLink "LeastcodeModel" 107 ⟨"java/util/Iterator", "hasNext", "()Z"⟩, .selects "java/util/ArrayList$Itr" ⟨"java/util/Iterator", "hasNext", "()Z"⟩ ⟨"java/util/ArrayList$Itr", "hasNext", "()Z"⟩, .instanceMethod ⟨"java/util/ArrayList$Itr", "hasNext", "()Z"⟩, .code ⟨"java/util/ArrayList$Itr", "hasNext", "()Z"⟩ prog_51_method_2_code 1 (some .boolean), .fieldLink "java/util/ArrayList$Itr" 25 "java/util/ArrayList$Itr" "cursor" "I", .methodLink "LeastcodeModel" 113 ⟨"java/util/Iterator", "next", "()Ljava/lang/Object;"⟩, .selects "java/util/ArrayList$Itr" ⟨"java/util/Iterator", "next", "()Ljava/lang/Object;"⟩ ⟨"java/util/ArrayList$Itr", "next", "()Ljava/lang/Object;"⟩, .instanceMethod ⟨"java/util/ArrayList$Itr", "next", "()Ljava/lang/Object;"⟩, .code ⟨"java/util/ArrayList$Itr", "next", "()Ljava/lang/Object;"⟩ prog_51_method_3_code 3 (some (.object "java/lang/Object")), .methodLink "java/util/ArrayList$Itr" 31 ⟨"java/util/ArrayList$Itr", "checkForComodification", "()V"⟩, .instanceMethod ⟨"java/util/ArrayList$Itr", "checkForComodification", "()V"⟩, .selects "java/util/ArrayList$Itr" ⟨"java/util/ArrayList$Itr", "checkForComodification", "()V"⟩ ⟨"java/util/ArrayList$Itr", "checkForComodification", "()V"⟩, .code ⟨"java/util/ArrayList$Itr", "checkForComodification", "()V"⟩ prog_51_method_6_code 1 none, .fieldLink "java/util/ArrayList$Itr" 37 "java/util/ArrayList" "elementData" "[Ljava/lang/Object;", .classLink "LeastcodeModel" 117 "java/lang/Integer", .methodLink "LeastcodeModel" 119 ⟨"java/lang/Integer", "intValue", "()I"⟩, .instanceMethod ⟨"java/lang/Integer", "intValue", "()I"⟩, .selects "java/lang/Integer" ⟨"java/lang/Integer", "intValue", "()I"⟩ ⟨"java/lang/Integer", "intValue", "()I"⟩, .initialized "java/lang/Integer", .code ⟨"java/lang/Integer", "intValue", "()I"⟩ prog_27_method_27_code 1 (some .int), .fieldLink "java/lang/Integer" 205 "java/lang/Integer" "value" "I", .methodLink "LeastcodeModel" 122 ⟨"LeastcodeModel", "step", "(II)I"⟩, .static ⟨"LeastcodeModel", "step", "(II)I"⟩, .code ⟨"LeastcodeModel", "step", "(II)I"⟩ prog_11_method_13_code 7 (some .int), .arrayClass .int, .methodLink "LeastcodeModel" 79 ⟨"LeastcodeModel", "first", "(I)I"⟩, .static ⟨"LeastcodeModel", "first", "(I)I"⟩, .code ⟨"LeastcodeModel", "first", "(I)I"⟩ prog_11_method_9_code 1 (some .int), .methodLink "LeastcodeModel" 82 ⟨"LeastcodeModel", "second", "(I)I"⟩, .static ⟨"LeastcodeModel", "second", "(I)I"⟩, .code ⟨"LeastcodeModel", "second", "(I)I"⟩ prog_11_method_10_code 1 (some .int), .methodLink "LeastcodeModel" 85 ⟨"LeastcodeModel", "kind", "(I)C"⟩, .static ⟨"LeastcodeModel", "kind", "(I)C"⟩, .code ⟨"LeastcodeModel", "kind", "(I)C"⟩ prog_11_method_8_code 1 (some .char), .methodLink "LeastcodeModel" 94 ⟨"LeastcodeModel", "state", "([II)I"⟩, .static ⟨"LeastcodeModel", "state", "([II)I"⟩, .code ⟨"LeastcodeModel", "state", "([II)I"⟩ prog_11_method_12_code 2 (some .int), .methodLink "LeastcodeModel" 129 ⟨"LeastcodeModel", "masked", "(II)I"⟩, .static ⟨"LeastcodeModel", "masked", "(II)I"⟩, .code ⟨"LeastcodeModel", "masked", "(II)I"⟩ prog_11_method_18_code 2 (some .int)]
theorem d_areSame_0 : decode b_areSame 0 = .ok (.iconst 0, 1) := by decide +kernel
theorem d_areSame_1 : decode b_areSame 1 = .ok (.istore_n 3, 1) := by decide +kernel
theorem d_areSame_2 : decode b_areSame 2 = .ok (.iload_n 3, 1) := by decide +kernel
theorem d_areSame_3 : decode b_areSame 3 = .ok (.sipush 128, 3) := by decide +kernel
theorem d_areSame_6 : decode b_areSame 6 = .ok (.if_icmp .ge 32, 3) := by decide +kernel
theorem d_areSame_9 : decode b_areSame 9 = .ok (.aload_n 0, 1) := by decide +kernel
theorem d_areSame_10 : decode b_areSame 10 = .ok (.iload_n 3, 1) := by decide +kernel
theorem d_areSame_11 : decode b_areSame 11 = .ok (.invokestatic 125, 3) := by decide +kernel
theorem d_areSame_14 : decode b_areSame 14 = .ok (.iload_n 2, 1) := by decide +kernel
theorem d_areSame_15 : decode b_areSame 15 = .ok (.invokestatic 129, 3) := by decide +kernel
theorem d_areSame_18 : decode b_areSame 18 = .ok (.aload_n 1, 1) := by decide +kernel
theorem d_areSame_19 : decode b_areSame 19 = .ok (.iload_n 3, 1) := by decide +kernel
theorem d_areSame_20 : decode b_areSame 20 = .ok (.invokestatic 125, 3) := by decide +kernel
theorem d_areSame_23 : decode b_areSame 23 = .ok (.iload_n 2, 1) := by decide +kernel
theorem d_areSame_24 : decode b_areSame 24 = .ok (.invokestatic 129, 3) := by decide +kernel
theorem d_areSame_27 : decode b_areSame 27 = .ok (.if_icmp .eq 5, 3) := by decide +kernel
theorem d_areSame_32 : decode b_areSame 32 = .ok (.iinc 3 1, 3) := by decide +kernel
theorem d_areSame_35 : decode b_areSame 35 = .ok (.goto (-33), 3) := by decide +kernel
theorem d_areSame_38 : decode b_areSame 38 = .ok (.iconst 1, 1) := by decide +kernel
theorem d_areSame_39 : decode b_areSame 39 = .ok (.ireturn, 1) := by decide +kernel
set_option maxRecDepth 20000 in
theorem g_areSame_11 : GoodIn w_areSame (wsS "LeastcodeModel" 125 ⟨"LeastcodeModel", "ran", "(Ljava/util/List;I)I"⟩ w_ran) := goodIn_r _ [1, 2, 3, 4, 5, 6, 7, 8, 9, 10, 11, 12, 13, 14, 15, 16, 17, 18, 19, 20, 21, 22, 23, 24, 25, 26, 27, 28, 29, 30, 31, 32, 33, 34, 35, 36, 37, 38, 39, 40, 41, 42, 43, 44, 45, 46, 47, 48, 49, 50, 51, 52, 53, 3, 54, 55, 56, 57, 58, 59, 60, 61, 62, 63, 64, 65, 66, 67] rfl (by decide +kernel)
set_option maxRecDepth 20000 in
theorem g_areSame_15 : GoodIn w_areSame (wsS "LeastcodeModel" 129 ⟨"LeastcodeModel", "masked", "(II)I"⟩ w_masked) := goodIn_r _ [68, 69, 3, 70] rfl (by decide +kernel)
set_option maxRecDepth 20000 in
theorem g_areSame_20 : GoodIn w_areSame (wsS "LeastcodeModel" 125 ⟨"LeastcodeModel", "ran", "(Ljava/util/List;I)I"⟩ w_ran) := goodIn_r _ [1, 2, 3, 4, 5, 6, 7, 8, 9, 10, 11, 12, 13, 14, 15, 16, 17, 18, 19, 20, 21, 22, 23, 24, 25, 26, 27, 28, 29, 30, 31, 32, 33, 34, 35, 36, 37, 38, 39, 40, 41, 42, 43, 44, 45, 46, 47, 48, 49, 50, 51, 52, 53, 3, 54, 55, 56, 57, 58, 59, 60, 61, 62, 63, 64, 65, 66, 67] rfl (by decide +kernel)
set_option maxRecDepth 20000 in
theorem g_areSame_24 : GoodIn w_areSame (wsS "LeastcodeModel" 129 ⟨"LeastcodeModel", "masked", "(II)I"⟩ w_masked) := goodIn_r _ [68, 69, 3, 70] rfl (by decide +kernel)
set_option maxHeartbeats 4000000 in
set_option maxRecDepth 100000 in
theorem c_areSame (l : Launch) (dC : Nat → ClassId) (dI : Nat → Nat → Nat) (h0 : Nat) (md : Int32) (ed : Nat) (n : Int32) (cB : ClassId) (f0 : Nat → Option Nat) (e0 : Nat) (hnk : n = nI 8) (hfk : ∀ j, j < 8 → f0 j = some e0) (sz : Nat) : Met l y_areSame w_areSame rm_areSame (va_Pc [.ref h0, .ref h0, .int 0] (fun U => U.heap.size = sz ∧ va_P (dC, dI) classes [(h0, .inr (9, [.int md, .ref ed, .int n])), (ed, .inl (cB, 10, .inr (.inr (.inr (.inr (f0))))))] U.heap ∧ va_K (dC, dI) classes [(cB, .object "java/lang/Object")] U ∧ va_D (fun _ => True) [(h0, .inr (9, [.int md, .ref ed, .int n])), (ed, .inl (cB, 10, .inr (.inr (.inr (.inr (f0))))))] ∧ va_O "java/lang/Integer" e0 (va_A [(h0, .inr (9, [.int md, .ref ed, .int n])), (ed, .inl (cB, 10, .inr (.inr (.inr (.inr (f0))))))] sz) U U.heap ∧ va_OF "java/lang/Integer" "value" "I" (.int 46) e0 (va_A [(h0, .inr (9, [.int md, .ref ed, .int n])), (ed, .inl (cB, 10, .inr (.inr (.inr (.inr (f0))))))] sz) U U.heap ∧ va_Fw "java/util/ArrayList" ⟨"java/util/List", "iterator", "()Ljava/util/Iterator;"⟩ ⟨"java/util/ArrayList", "iterator", "()Ljava/util/Iterator;"⟩ U ∧ va_Fw "java/util/ArrayList$Itr" ⟨"java/util/Iterator", "hasNext", "()Z"⟩ ⟨"java/util/ArrayList$Itr", "hasNext", "()Z"⟩ U ∧ va_Nw (.fieldLinkNest "java/util/ArrayList$Itr" 28 "java/util/ArrayList" "size" "I" "java/util/ArrayList") U ∧ va_Fw "java/util/ArrayList$Itr" ⟨"java/util/Iterator", "next", "()Ljava/lang/Object;"⟩ ⟨"java/util/ArrayList$Itr", "next", "()Ljava/lang/Object;"⟩ U ∧ va_Nw (.castable "java/lang/Integer" "java/lang/Integer") U)) (va_Qi (fun r (_ : Unit) => r = 1) (fun _ t => va_P (dC, dI) classes [(h0, .inr (9, [.int md, .ref ed, .int n])), (ed, .inl (cB, 10, .inr (.inr (.inr (.inr (f0))))))] t.heap ∧ va_K (dC, dI) classes [(cB, .object "java/lang/Object")] t ∧ va_D (va_A [(h0, .inr (9, [.int md, .ref ed, .int n])), (ed, .inl (cB, 10, .inr (.inr (.inr (.inr (f0))))))] sz) [(h0, .inr (9, [.int md, .ref ed, .int n])), (ed, .inl (cB, 10, .inr (.inr (.inr (.inr (f0))))))] ∧ sz + 2304 ≤ t.heap.size) (va_A [(h0, .inr (9, [.int md, .ref ed, .int n])), (ed, .inl (cB, 10, .inr (.inr (.inr (.inr (f0))))))] sz)) 2304 5120 (va_A [(h0, .inr (9, [.int md, .ref ed, .int n])), (ed, .inl (cB, 10, .inr (.inr (.inr (.inr (f0))))))] sz) := by
  refine Met.ofW (cc := b_areSame) (maxL := 4) (ret := (some .boolean)) (by decide) rfl ?_
  intro p e s m args below meth c s₁ B hml hv
  obtain ⟨rfl, hsz, hP, hK, hD0, hE0, hE1, hE2, hE3, hE4, hE5, hE6⟩ := hv
  have hx := B.exec
  have hb := B.bytes
  have hr := B.returns
  have hts := atoms_spec (ws := w_areSame) B.pre
  have hown : s.vm.findClass "LeastcodeModel" = some m.cls := findClass_of_methodNamed B.named
  have hlocks := B.notSynchronized
  subst hsz
  have hD := hD0.self (sz := s.heap.size)
  generalize hAe : va_A [(h0, .inr (9, [.int md, .ref ed, .int n])), (ed, .inl (cB, 10, .inr (.inr (.inr (.inr (f0))))))] s.heap.size = A at hD hE0 hE1 hE2 hE3 hE4 hE5 hE6 ⊢
  have hA : ∀ q : Nat, s.heap.size ≤ q → A q := fun q h => by rw [← hAe]; exact Or.inr h
  have hS : va_S A s.heap s.heap [] := va_S.rf
  have hP : va_P (dC, dI) classes [(h0, .inr (9, [.int md, .ref ed, .int n])), (ed, .inl (cB, 10, .inr (.inr (.inr (.inr (f0))))))] s.heap := hP
  have hl := lv_entry ([.ref h0, .ref h0, .int 0]) (n := 4) (Nat.le_of_ble_eq_true rfl)
  rw [lg_entry_eq]
  generalize (lg_sl ([.ref h0, .ref h0, .int 0]) ++ List.replicate (4 - (lg_sl ([.ref h0, .ref h0, .int 0])).length) Slot.unset).toArray = ls at hl ⊢
  have hl : lv_has ls 4 [(0, .ref h0), (1, .ref h0), (2, .int 0)] := hl
  refine lv_iconst (v := 0) hx hb d_areSame_0 (by decide) ?_
  refine lv_istore_n (lv' := [(3, .int 0), (0, .ref h0), (1, .ref h0), (2, .int 0)]) hx hb d_areSame_1 rfl hl (by decide) rfl (fun ls hl => ?_)
  refine ry_abs (fun QQ hQ => ?_)
  have loop : ∀ (k i : Nat), i + k = 128 → ∀ (H : Heap) (locs : List Loc) (ls : Array Slot) (x : Int32), x = nI i → (s.heap.size + 18 * i ≤ H.size) → va_P (dC, dI) classes [(h0, .inr (9, [.int md, .ref ed, .int n])), (ed, .inl (cB, 10, .inr (.inr (.inr (.inr (f0))))))] H → va_D A [(h0, .inr (9, [.int md, .ref ed, .int n])), (ed, .inl (cB, 10, .inr (.inr (.inr (.inr (f0))))))] → va_S A s.heap H locs → lv_has ls 4 [(3, .int x), (0, .ref h0), (1, .ref h0), (2, .int 0)] → W p l e (headSpec w_areSame rm_areSame).room s m ([.ref h0, .ref h0, .int 0] : List Value).toArray below meth c H locs (18 * i) (40 * i) QQ (F0 m 2 ls []) := by
    intro k
    induction k with
    | zero =>
      intro i hi H locs ls x ex0 hg hP hD hS hl
      obtain rfl : i = 128 := by omega
      refine W.widen (k := 2304) (n := 5120) (by omega) (by omega) ?_
      refine lv_iload_n hx hb d_areSame_2 rfl (lv_at hl 0 rfl) ?_
      refine lv_sipush (v := 128) hx hb d_areSame_3 (by decide) ?_
      refine lv_icmp_ge (tgt := 38) hx hb d_areSame_6 (by decide) (fun c_6 => ?_) (fun c_6 => ?_)
      · skip
        refine lv_iconst (v := 1) hx hb d_areSame_38 (by decide) ?_
        subst hQ
        have hP9 : va_P (dC, dI) classes [(h0, .inr (9, [.int md, .ref ed, .int n])), (ed, .inl (cB, 10, .inr (.inr (.inr (.inr (f0))))))] H := hP.sub (ws' := [(h0, .inr (9, [.int md, .ref ed, .int n])), (ed, .inl (cB, 10, .inr (.inr (.inr (.inr (f0))))))]) [0, 1] rfl
        have hD9 := hD.sub (ws' := [(h0, .inr (9, [.int md, .ref ed, .int n])), (ed, .inl (cB, 10, .inr (.inr (.inr (.inr (f0))))))]) [0, 1] (by decide) rfl
        have hK9 := hK.sub (tys' := [(cB, .object "java/lang/Object")]) [0] rfl
        refine W.widen (k := 2304) (n := 5120) (by omega) (by omega) ?_
        exact W.zret hx hb hr rfl (fun t ht hW => ⟨⟨_, (), rfl, rfl, ⟨by rw [ht]; exact hP9, va_K.moved hW.alike hK9, hD9, (by rw [ht]; omega)⟩⟩, hS.F ht⟩) hS.2.2 d_areSame_39
      · exact absurd (by rw [ex0]; exact (show nI 128 ≤ nI 128 from nI_le (Nat.le_refl 128) (by omega))) c_6
    | succ k ih =>
      intro i hi H locs ls x ex0 hg hP hD hS hl
      have hlt : i < 128 := by omega
      refine lv_iload_n hx hb d_areSame_2 rfl (lv_at hl 0 rfl) ?_
      refine lv_sipush (v := 128) hx hb d_areSame_3 (by decide) ?_
      refine lv_icmp_ge (tgt := 38) hx hb d_areSame_6 (by decide) (fun c_6 => ?_) (fun c_6 => ?_)
      · exact absurd c_6 (by rw [ex0]; exact (show ¬ nI 128 ≤ nI i from nI_ge hlt (by omega)))
      · skip
        refine lv_aload_n hx hb d_areSame_9 rfl (lv_at hl 1 rfl) ?_
        refine lv_iload_n hx hb d_areSame_10 rfl (lv_at hl 0 rfl) ?_
        have hPc : va_P (dC, dI) classes [(h0, .inr (9, [.int md, .ref ed, .int n])), (ed, .inl (cB, 10, .inr (.inr (.inr (.inr (f0))))))] _ := hP.sub (ws' := [(h0, .inr (9, [.int md, .ref ed, .int n])), (ed, .inl (cB, 10, .inr (.inr (.inr (.inr (f0))))))]) [0, 1] rfl
        have hKc : va_K (dC, dI) classes [(cB, .object "java/lang/Object")] s := hK.sub (tys' := [(cB, .object "java/lang/Object")]) [0] rfl
        have hDc : va_D _ [(h0, .inr (9, [.int md, .ref ed, .int n])), (ed, .inl (cB, 10, .inr (.inr (.inr (.inr (f0))))))] := hD.sub (ws' := [(h0, .inr (9, [.int md, .ref ed, .int n])), (ed, .inl (cB, 10, .inr (.inr (.inr (.inr (f0))))))]) [0, 1] (by decide) rfl
        have hFc := va_free (wc := [(h0, .inr (9, [.int md, .ref ed, .int n])), (ed, .inl (cB, 10, .inr (.inr (.inr (.inr (f0))))))]) hD hS hA [0, 1] rfl
        refine va_calli (va_runS (As := [.ref h0, .int x]) (rest := []) ⟨hx, hb, hml, hown, hts⟩ (c_ran l dC dI h0 md ed n cB f0 e0 x hnk hfk H.size) (cwS 2 hts g_areSame_11 rfl rfl rfl (by decide +kernel) ⟨Nat.le_of_ble_eq_true rfl, Nat.le_of_ble_eq_true rfl⟩) ⟨fun a U g mk z => by obtain ⟨z0, z1, zP, zK, zD, zE0, zE1, zE2, zE3, zE4, zE5, zE6⟩ := z; exact ⟨z0, z1, zP, va_K.moved (u := U) (U := U.calling g mk a) (Vm.Alike.refl U.vm) zK, zD, zE0.moved (u := U) (U := U.calling g mk a) (Vm.Alike.refl U.vm), zE1.moved (u := U) (U := U.calling g mk a) (Vm.Alike.refl U.vm), va_Fw.moved (by decide +kernel) (u := U) (U := U.calling g mk a) (Vm.Alike.refl U.vm) zE2, va_Fw.moved (by decide +kernel) (u := U) (U := U.calling g mk a) (Vm.Alike.refl U.vm) zE3, va_Nw.same rfl (u := U) (U := U.calling g mk a) rfl zE4, va_Fw.moved (by decide +kernel) (u := U) (U := U.calling g mk a) (Vm.Alike.refl U.vm) zE5, va_Nw.same rfl (u := U) (U := U.calling g mk a) rfl zE6⟩, fun U hU hW => ⟨rfl, by rw [hU], by rw [hU]; exact hPc, va_K.moved hW.alike hKc, hDc.weaken (fun _ _ _ _ => trivial), by (try dsimp only); rw [hU]; exact ((hE0.kept (fun a h1 h2 => hS.2.1 a h1 h2)).narrow hFc).moved hW.alike, by (try dsimp only); rw [hU]; exact ((hE1.kept (fun a h1 h2 => hS.2.1 a h1 h2)).narrow hFc).moved hW.alike, va_Fw.moved (by decide +kernel) hW.alike hE2, va_Fw.moved (by decide +kernel) hW.alike hE3, va_Nw.warmF hW hE4, va_Fw.moved (by decide +kernel) hW.alike hE5, va_Nw.warmC hW hE6⟩⟩ rfl rfl hl.1 rfl (lv_room (Nat.le_of_ble_eq_true rfl)) d_areSame_11 ⟨(show 18 * i + 9 ≤ 2304 by omega), (show 40 * i + 20 ≤ 5120 by omega)⟩) hS (fun q _ h => hFc q h) hFc (fun r1 u t H1 locs ht hvm hr1 hB hz1 hk1 hS => ?_)
        obtain ⟨hP1, hK1, hD1, hpr1_0⟩ := hB
        rw [ht] at hP1
        have hK1 := va_K.moved hvm.symm hK1
        rw [ht] at hpr1_0
        obtain ⟨hP, hD⟩ := va_join (wr := []) (w1 := [(h0, .inr (9, [.int md, .ref ed, .int n])), (ed, .inl (cB, 10, .inr (.inr (.inr (.inr (f0))))))]) hP hD [0, 1] [] rfl rfl (by decide) (by decide) hk1 hFc hP1 hD1
        clear hPc hDc hKc hFc hP1 hD1 hK1 hk1
        have hg2 : s.heap.size + 18 * i + 9 ≤ H1.size := by have := hpr1_0; omega
        generalize H1 = H at hP hS hg2 ⊢
        have hP : va_P (dC, dI) classes [(h0, .inr (9, [.int md, .ref ed, .int n])), (ed, .inl (cB, 10, .inr (.inr (.inr (.inr (f0))))))] H := hP
        have hD : va_D A [(h0, .inr (9, [.int md, .ref ed, .int n])), (ed, .inl (cB, 10, .inr (.inr (.inr (.inr (f0))))))] := hD
        refine W.widen (k := 18 * i + 9) (n := 40 * i + 20) (by omega) (by omega) ?_
        refine lv_iload_n hx hb d_areSame_14 rfl (lv_at hl 3 rfl) ?_
        refine vp_callSi (W.runS (As := [.int r1, .int 0]) (rest := []) ⟨hx, hb, hml, hown, hts⟩ (c_masked l r1) (cwS 2 hts g_areSame_15 rfl rfl rfl (by decide +kernel) ⟨Nat.le_of_ble_eq_true rfl, Nat.le_of_ble_eq_true rfl⟩) ⟨fun a U g mk z => z, fun U hU hW => ⟨rfl, trivial⟩⟩ rfl rfl hl.1 rfl (lv_room (Nat.le_of_ble_eq_true rfl)) d_areSame_15 ⟨(show 18 * i + 9 + 0 ≤ 2304 by omega), (show 40 * i + 20 + 0 ≤ 5120 by omega)⟩) (fun r2 hr2 => ?_)
        replace hr2 := hr2.symm; subst hr2
        refine lv_aload_n hx hb d_areSame_18 rfl (lv_at hl 2 rfl) ?_
        refine lv_iload_n hx hb d_areSame_19 rfl (lv_at hl 0 rfl) ?_
        have hPc : va_P (dC, dI) classes [(h0, .inr (9, [.int md, .ref ed, .int n])), (ed, .inl (cB, 10, .inr (.inr (.inr (.inr (f0))))))] _ := hP.sub (ws' := [(h0, .inr (9, [.int md, .ref ed, .int n])), (ed, .inl (cB, 10, .inr (.inr (.inr (.inr (f0))))))]) [0, 1] rfl
        have hKc : va_K (dC, dI) classes [(cB, .object "java/lang/Object")] s := hK.sub (tys' := [(cB, .object "java/lang/Object")]) [0] rfl
        have hDc : va_D _ [(h0, .inr (9, [.int md, .ref ed, .int n])), (ed, .inl (cB, 10, .inr (.inr (.inr (.inr (f0))))))] := hD.sub (ws' := [(h0, .inr (9, [.int md, .ref ed, .int n])), (ed, .inl (cB, 10, .inr (.inr (.inr (.inr (f0))))))]) [0, 1] (by decide) rfl
        have hFc := va_free (wc := [(h0, .inr (9, [.int md, .ref ed, .int n])), (ed, .inl (cB, 10, .inr (.inr (.inr (.inr (f0))))))]) hD hS hA [0, 1] rfl
        refine va_calli (va_runS (As := [.ref h0, .int x]) (rest := [.int 0]) ⟨hx, hb, hml, hown, hts⟩ (c_ran l dC dI h0 md ed n cB f0 e0 x hnk hfk H.size) (cwS 2 hts g_areSame_20 rfl rfl rfl (by decide +kernel) ⟨Nat.le_of_ble_eq_true rfl, Nat.le_of_ble_eq_true rfl⟩) ⟨fun a U g mk z => by obtain ⟨z0, z1, zP, zK, zD, zE0, zE1, zE2, zE3, zE4, zE5, zE6⟩ := z; exact ⟨z0, z1, zP, va_K.moved (u := U) (U := U.calling g mk a) (Vm.Alike.refl U.vm) zK, zD, zE0.moved (u := U) (U := U.calling g mk a) (Vm.Alike.refl U.vm), zE1.moved (u := U) (U := U.calling g mk a) (Vm.Alike.refl U.vm), va_Fw.moved (by decide +kernel) (u := U) (U := U.calling g mk a) (Vm.Alike.refl U.vm) zE2, va_Fw.moved (by decide +kernel) (u := U) (U := U.calling g mk a) (Vm.Alike.refl U.vm) zE3, va_Nw.same rfl (u := U) (U := U.calling g mk a) rfl zE4, va_Fw.moved (by decide +kernel) (u := U) (U := U.calling g mk a) (Vm.Alike.refl U.vm) zE5, va_Nw.same rfl (u := U) (U := U.calling g mk a) rfl zE6⟩, fun U hU hW => ⟨rfl, by rw [hU], by rw [hU]; exact hPc, va_K.moved hW.alike hKc, hDc.weaken (fun _ _ _ _ => trivial), by (try dsimp only); rw [hU]; exact ((hE0.kept (fun a h1 h2 => hS.2.1 a h1 h2)).narrow hFc).moved hW.alike, by (try dsimp only); rw [hU]; exact ((hE1.kept (fun a h1 h2 => hS.2.1 a h1 h2)).narrow hFc).moved hW.alike, va_Fw.moved (by decide +kernel) hW.alike hE2, va_Fw.moved (by decide +kernel) hW.alike hE3, va_Nw.warmF hW hE4, va_Fw.moved (by decide +kernel) hW.alike hE5, va_Nw.warmC hW hE6⟩⟩ rfl rfl hl.1 rfl (lv_room (Nat.le_of_ble_eq_true rfl)) d_areSame_20 ⟨(show 18 * i + 9 + 9 ≤ 2304 by omega), (show 40 * i + 20 + 20 ≤ 5120 by omega)⟩) hS (fun q _ h => hFc q h) hFc (fun r3 u t H1 locs ht hvm hr3 hB hz1 hk1 hS => ?_)
        obtain ⟨hP1, hK1, hD1, hpr3_0⟩ := hB
        rw [ht] at hP1
        have hK1 := va_K.moved hvm.symm hK1
        rw [ht] at hpr3_0
        obtain ⟨hP, hD⟩ := va_join (wr := []) (w1 := [(h0, .inr (9, [.int md, .ref ed, .int n])), (ed, .inl (cB, 10, .inr (.inr (.inr (.inr (f0))))))]) hP hD [0, 1] [] rfl rfl (by decide) (by decide) hk1 hFc hP1 hD1
        clear hPc hDc hKc hFc hP1 hD1 hK1 hk1
        have hg3 : s.heap.size + 18 * (i + 1) ≤ H1.size := by have := hpr3_0; omega
        generalize H1 = H at hP hS hg3 ⊢
        have hP : va_P (dC, dI) classes [(h0, .inr (9, [.int md, .ref ed, .int n])), (ed, .inl (cB, 10, .inr (.inr (.inr (.inr (f0))))))] H := hP
        have hD : va_D A [(h0, .inr (9, [.int md, .ref ed, .int n])), (ed, .inl (cB, 10, .inr (.inr (.inr (.inr (f0))))))] := hD
        refine W.widen (k := 18 * i + 9 + 9) (n := 40 * i + 20 + 20) (by omega) (by omega) ?_
        refine lv_iload_n hx hb d_areSame_23 rfl (lv_at hl 3 rfl) ?_
        refine vp_callSi (W.runS (As := [.int r3, .int 0]) (rest := [.int 0]) ⟨hx, hb, hml, hown, hts⟩ (c_masked l r3) (cwS 2 hts g_areSame_24 rfl rfl rfl (by decide +kernel) ⟨Nat.le_of_ble_eq_true rfl, Nat.le_of_ble_eq_true rfl⟩) ⟨fun a U g mk z => z, fun U hU hW => ⟨rfl, trivial⟩⟩ rfl rfl hl.1 rfl (lv_room (Nat.le_of_ble_eq_true rfl)) d_areSame_24 ⟨(show 18 * i + 9 + 9 + 0 ≤ 2304 by omega), (show 40 * i + 20 + 20 + 0 ≤ 5120 by omega)⟩) (fun r4 hr4 => ?_)
        replace hr4 := hr4.symm; subst hr4
        refine lv_icmp_eq (tgt := 32) hx hb d_areSame_27 (by decide) (fun c_27 => ?_) (fun c_27 => ?_)
        · skip
          obtain ⟨x5, ex5⟩ : ∃ y : Int32, y = x + 1 := ⟨_, rfl⟩
          refine lv_iinc (v := x5) (lv' := [(3, .int x5), (0, .ref h0), (1, .ref h0), (2, .int 0)]) hx hb d_areSame_32 hl (k := 0) rfl (by rw [ex5]; rfl) (by decide) rfl (fun ls hl => ?_)
          refine lv_goto (tgt := 2) hx hb d_areSame_35 (by decide) ?_
          refine W.widen (k := 18 * (i + 1)) (n := 40 * (i + 1)) (by omega) (by omega) ?_
          exact ih (i + 1) (by omega) _ _ _ x5 (by rw [ex5, ex0]; exact nI_1 i) hg3 (hP.sub [0, 1] rfl) (hD.sub [0, 1] (by decide) rfl) hS (lv_sub hl [0, 1, 2, 3] rfl)
        · exact absurd rfl c_27
  refine W.widen (k := 18 * 0) (n := 40 * 0) (by omega) (by omega) ?_
  exact loop 128 0 rfl _ _ _ _ nI_0.symm (by omega) hP hD hS (lv_sub hl [0, 1, 2, 3] rfl)
end
